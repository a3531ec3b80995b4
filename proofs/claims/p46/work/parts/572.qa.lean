/-! The reference's parser: what stands here, blanks, letters, digits. -/
def hc (tx : List Int32) (k : Nat) : Int := if k < tx.length then (if pc tx k < 0 then pc tx k + 256 else pc tx k) else -1
section QA
variable {σ τ υ : zS} {m p k : Nat} {tx : List Int32}
end QA
