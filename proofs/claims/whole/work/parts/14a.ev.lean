noncomputable abbrev ex : Nat → Nat → List mm_V → List mm_V → mm_H → Option mm_R := mm_ev tabX (mm_en infX)
noncomputable abbrev em : Nat → Nat → List mm_V → List mm_V → mm_H → Option mm_R := mm_ev tabM (mm_en infM)
