/-- what the machine answers over the tables of this claim, the JVM does -/
theorem aSim {kA : Nat → ClassId} {ad kS : Nat → Nat} {D : va_G} (hst : ∀ j, ad (1000 + j) = kS j) (n : Nat) : aSB aTB aSh0 aFk0 150 kA ad kS D n := aSB_all clF_ok aSh0_lt hst aTB_ok n
