section PET
variable {x : CX}
end PET
