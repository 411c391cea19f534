/-! INSTRUCTIONS: each method's list is what its bytes decode to (wip/tools/gen_dec.py) -/
