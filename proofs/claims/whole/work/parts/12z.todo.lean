section
variable {lx : am_Lx} {mt : Nat → am_Mt} {own nm : String} {cc : ByteArray} {nL mc ms pc : Nat} {ret : Option FieldType}
theorem am_sd_ldcs1 (hdg : decode cc pc = .ok (.ldc 69, 2)) : am_Sd lx mt "SpeciesRounds$Reader" nm cc nL mc ms ret pc (am_ldcs 1) := sorry
theorem am_sd_ldcs2 (hdg : decode cc pc = .ok (.ldc 81, 2)) : am_Sd lx mt "SpeciesRounds$Reader" nm cc nL mc ms ret pc (am_ldcs 2) := sorry
theorem am_sd_ldcs3 (hdg : decode cc pc = .ok (.ldc 86, 2)) : am_Sd lx mt "SpeciesRounds$Reader" nm cc nL mc ms ret pc (am_ldcs 3) := sorry
theorem am_sd_ixof {index : Nat} (hlk : Cond.methodLink own index ⟨"java/lang/String", "indexOf", "(I)I"⟩ ∈ am_G) (hdg : decode cc pc = .ok (.invokevirtual index, 3)) : am_Sd lx mt own nm cc nL mc ms ret pc am_ixof := sorry
theorem am_sd_newM {index : Nat} (hlk : Cond.classLink own index "[[I" ∈ am_G) (hdg : decode cc pc = .ok (.multianewarray index 2, 4)) : am_Sd lx mt own nm cc nL mc ms ret pc (am_newm mc ms) := sorry
end
