/-! expression, k lists deep at most -/
def g_73 : Nat → Nat → Int32 → amS → amQ
  | 0, _ => fun _ _ => none
  | k + 1, n => b_73 (g_73 k n) n
theorem c_73 {X : amX} {R : amS} {u : Nat → Int64} (n : Nat) : ∀ (k : Nat) (dep : Int32) (S : amS) (d : Nat), 20 * k ≤ d → CW X d 73 [.ref 23, .int dep] (wc R u) S (g_73 k n dep S)
  | 0, dep, S, d, _ => fun e o T h => by cases h
  | k + 1, dep, S, d, hd => cb_73 (dE := 20 * k) (fun dep S d' h => c_73 n k dep S d' h) (by omega) n dep S
