/-- what the class holds: marks, in the log, rows, tallies, pages written, filters, ring, open page, head, living, standing, closed, got -/
abbrev CS : Type := (Nat → Bool) × (Nat → Bool) × (Nat → List (Option Nat)) × (Nat → Int32) × (Nat → Nat) × (Nat → Int64) × (Nat → Nat) × (Nat) × (Nat) × (Int32) × (Int32) × (Bool) × (Int32 × Int32 × Int32)
abbrev xM (σ : CS) : Nat → Bool := σ.1
abbrev xI (σ : CS) : Nat → Bool := σ.2.1
abbrev xR (σ : CS) : Nat → List (Option Nat) := σ.2.2.1
abbrev xT (σ : CS) : Nat → Int32 := σ.2.2.2.1
abbrev xW (σ : CS) : Nat → Nat := σ.2.2.2.2.1
abbrev xF (σ : CS) : Nat → Int64 := σ.2.2.2.2.2.1
abbrev xG (σ : CS) : Nat → Nat := σ.2.2.2.2.2.2.1
abbrev xO (σ : CS) : Nat := σ.2.2.2.2.2.2.2.1
abbrev xH (σ : CS) : Nat := σ.2.2.2.2.2.2.2.2.1
abbrev xV (σ : CS) : Int32 := σ.2.2.2.2.2.2.2.2.2.1
abbrev xS (σ : CS) : Int32 := σ.2.2.2.2.2.2.2.2.2.2.1
abbrev xC (σ : CS) : Bool := σ.2.2.2.2.2.2.2.2.2.2.2.1
abbrev xQ (σ : CS) : Int32 × Int32 × Int32 := σ.2.2.2.2.2.2.2.2.2.2.2.2
def zM (σ : CS) (v : Nat → Bool) : CS := (v, xI σ, xR σ, xT σ, xW σ, xF σ, xG σ, xO σ, xH σ, xV σ, xS σ, xC σ, xQ σ)
def zI (σ : CS) (v : Nat → Bool) : CS := (xM σ, v, xR σ, xT σ, xW σ, xF σ, xG σ, xO σ, xH σ, xV σ, xS σ, xC σ, xQ σ)
def zR (σ : CS) (v : Nat → List (Option Nat)) : CS := (xM σ, xI σ, v, xT σ, xW σ, xF σ, xG σ, xO σ, xH σ, xV σ, xS σ, xC σ, xQ σ)
def zT (σ : CS) (v : Nat → Int32) : CS := (xM σ, xI σ, xR σ, v, xW σ, xF σ, xG σ, xO σ, xH σ, xV σ, xS σ, xC σ, xQ σ)
def zW (σ : CS) (v : Nat → Nat) : CS := (xM σ, xI σ, xR σ, xT σ, v, xF σ, xG σ, xO σ, xH σ, xV σ, xS σ, xC σ, xQ σ)
def zF (σ : CS) (v : Nat → Int64) : CS := (xM σ, xI σ, xR σ, xT σ, xW σ, v, xG σ, xO σ, xH σ, xV σ, xS σ, xC σ, xQ σ)
def zG (σ : CS) (v : Nat → Nat) : CS := (xM σ, xI σ, xR σ, xT σ, xW σ, xF σ, v, xO σ, xH σ, xV σ, xS σ, xC σ, xQ σ)
def zO (σ : CS) (v : Nat) : CS := (xM σ, xI σ, xR σ, xT σ, xW σ, xF σ, xG σ, v, xH σ, xV σ, xS σ, xC σ, xQ σ)
def zH (σ : CS) (v : Nat) : CS := (xM σ, xI σ, xR σ, xT σ, xW σ, xF σ, xG σ, xO σ, v, xV σ, xS σ, xC σ, xQ σ)
def zV (σ : CS) (v : Int32) : CS := (xM σ, xI σ, xR σ, xT σ, xW σ, xF σ, xG σ, xO σ, xH σ, v, xS σ, xC σ, xQ σ)
def zS (σ : CS) (v : Int32) : CS := (xM σ, xI σ, xR σ, xT σ, xW σ, xF σ, xG σ, xO σ, xH σ, xV σ, v, xC σ, xQ σ)
def zC (σ : CS) (v : Bool) : CS := (xM σ, xI σ, xR σ, xT σ, xW σ, xF σ, xG σ, xO σ, xH σ, xV σ, xS σ, v, xQ σ)
def zQ (σ : CS) (v : Int32 × Int32 × Int32) : CS := (xM σ, xI σ, xR σ, xT σ, xW σ, xF σ, xG σ, xO σ, xH σ, xV σ, xS σ, xC σ, v)
theorem zM_M (σ : CS) (v : Nat → Bool) : xM (zM σ v) = v := rfl
theorem zM_I (σ : CS) (v : Nat → Bool) : xI (zM σ v) = xI σ := rfl
theorem zM_R (σ : CS) (v : Nat → Bool) : xR (zM σ v) = xR σ := rfl
theorem zM_T (σ : CS) (v : Nat → Bool) : xT (zM σ v) = xT σ := rfl
theorem zM_W (σ : CS) (v : Nat → Bool) : xW (zM σ v) = xW σ := rfl
theorem zM_F (σ : CS) (v : Nat → Bool) : xF (zM σ v) = xF σ := rfl
theorem zM_G (σ : CS) (v : Nat → Bool) : xG (zM σ v) = xG σ := rfl
theorem zM_O (σ : CS) (v : Nat → Bool) : xO (zM σ v) = xO σ := rfl
theorem zM_H (σ : CS) (v : Nat → Bool) : xH (zM σ v) = xH σ := rfl
theorem zM_V (σ : CS) (v : Nat → Bool) : xV (zM σ v) = xV σ := rfl
theorem zM_S (σ : CS) (v : Nat → Bool) : xS (zM σ v) = xS σ := rfl
theorem zM_C (σ : CS) (v : Nat → Bool) : xC (zM σ v) = xC σ := rfl
theorem zM_Q (σ : CS) (v : Nat → Bool) : xQ (zM σ v) = xQ σ := rfl
theorem zI_M (σ : CS) (v : Nat → Bool) : xM (zI σ v) = xM σ := rfl
theorem zI_I (σ : CS) (v : Nat → Bool) : xI (zI σ v) = v := rfl
theorem zI_R (σ : CS) (v : Nat → Bool) : xR (zI σ v) = xR σ := rfl
theorem zI_T (σ : CS) (v : Nat → Bool) : xT (zI σ v) = xT σ := rfl
theorem zI_W (σ : CS) (v : Nat → Bool) : xW (zI σ v) = xW σ := rfl
theorem zI_F (σ : CS) (v : Nat → Bool) : xF (zI σ v) = xF σ := rfl
theorem zI_G (σ : CS) (v : Nat → Bool) : xG (zI σ v) = xG σ := rfl
theorem zI_O (σ : CS) (v : Nat → Bool) : xO (zI σ v) = xO σ := rfl
theorem zI_H (σ : CS) (v : Nat → Bool) : xH (zI σ v) = xH σ := rfl
theorem zI_V (σ : CS) (v : Nat → Bool) : xV (zI σ v) = xV σ := rfl
theorem zI_S (σ : CS) (v : Nat → Bool) : xS (zI σ v) = xS σ := rfl
theorem zI_C (σ : CS) (v : Nat → Bool) : xC (zI σ v) = xC σ := rfl
theorem zI_Q (σ : CS) (v : Nat → Bool) : xQ (zI σ v) = xQ σ := rfl
theorem zR_M (σ : CS) (v : Nat → List (Option Nat)) : xM (zR σ v) = xM σ := rfl
theorem zR_I (σ : CS) (v : Nat → List (Option Nat)) : xI (zR σ v) = xI σ := rfl
theorem zR_R (σ : CS) (v : Nat → List (Option Nat)) : xR (zR σ v) = v := rfl
theorem zR_T (σ : CS) (v : Nat → List (Option Nat)) : xT (zR σ v) = xT σ := rfl
theorem zR_W (σ : CS) (v : Nat → List (Option Nat)) : xW (zR σ v) = xW σ := rfl
theorem zR_F (σ : CS) (v : Nat → List (Option Nat)) : xF (zR σ v) = xF σ := rfl
theorem zR_G (σ : CS) (v : Nat → List (Option Nat)) : xG (zR σ v) = xG σ := rfl
theorem zR_O (σ : CS) (v : Nat → List (Option Nat)) : xO (zR σ v) = xO σ := rfl
theorem zR_H (σ : CS) (v : Nat → List (Option Nat)) : xH (zR σ v) = xH σ := rfl
theorem zR_V (σ : CS) (v : Nat → List (Option Nat)) : xV (zR σ v) = xV σ := rfl
theorem zR_S (σ : CS) (v : Nat → List (Option Nat)) : xS (zR σ v) = xS σ := rfl
theorem zR_C (σ : CS) (v : Nat → List (Option Nat)) : xC (zR σ v) = xC σ := rfl
theorem zR_Q (σ : CS) (v : Nat → List (Option Nat)) : xQ (zR σ v) = xQ σ := rfl
theorem zT_M (σ : CS) (v : Nat → Int32) : xM (zT σ v) = xM σ := rfl
theorem zT_I (σ : CS) (v : Nat → Int32) : xI (zT σ v) = xI σ := rfl
theorem zT_R (σ : CS) (v : Nat → Int32) : xR (zT σ v) = xR σ := rfl
theorem zT_T (σ : CS) (v : Nat → Int32) : xT (zT σ v) = v := rfl
theorem zT_W (σ : CS) (v : Nat → Int32) : xW (zT σ v) = xW σ := rfl
theorem zT_F (σ : CS) (v : Nat → Int32) : xF (zT σ v) = xF σ := rfl
theorem zT_G (σ : CS) (v : Nat → Int32) : xG (zT σ v) = xG σ := rfl
theorem zT_O (σ : CS) (v : Nat → Int32) : xO (zT σ v) = xO σ := rfl
theorem zT_H (σ : CS) (v : Nat → Int32) : xH (zT σ v) = xH σ := rfl
theorem zT_V (σ : CS) (v : Nat → Int32) : xV (zT σ v) = xV σ := rfl
theorem zT_S (σ : CS) (v : Nat → Int32) : xS (zT σ v) = xS σ := rfl
theorem zT_C (σ : CS) (v : Nat → Int32) : xC (zT σ v) = xC σ := rfl
theorem zT_Q (σ : CS) (v : Nat → Int32) : xQ (zT σ v) = xQ σ := rfl
theorem zW_M (σ : CS) (v : Nat → Nat) : xM (zW σ v) = xM σ := rfl
theorem zW_I (σ : CS) (v : Nat → Nat) : xI (zW σ v) = xI σ := rfl
theorem zW_R (σ : CS) (v : Nat → Nat) : xR (zW σ v) = xR σ := rfl
theorem zW_T (σ : CS) (v : Nat → Nat) : xT (zW σ v) = xT σ := rfl
theorem zW_W (σ : CS) (v : Nat → Nat) : xW (zW σ v) = v := rfl
theorem zW_F (σ : CS) (v : Nat → Nat) : xF (zW σ v) = xF σ := rfl
theorem zW_G (σ : CS) (v : Nat → Nat) : xG (zW σ v) = xG σ := rfl
theorem zW_O (σ : CS) (v : Nat → Nat) : xO (zW σ v) = xO σ := rfl
theorem zW_H (σ : CS) (v : Nat → Nat) : xH (zW σ v) = xH σ := rfl
theorem zW_V (σ : CS) (v : Nat → Nat) : xV (zW σ v) = xV σ := rfl
theorem zW_S (σ : CS) (v : Nat → Nat) : xS (zW σ v) = xS σ := rfl
theorem zW_C (σ : CS) (v : Nat → Nat) : xC (zW σ v) = xC σ := rfl
theorem zW_Q (σ : CS) (v : Nat → Nat) : xQ (zW σ v) = xQ σ := rfl
theorem zF_M (σ : CS) (v : Nat → Int64) : xM (zF σ v) = xM σ := rfl
theorem zF_I (σ : CS) (v : Nat → Int64) : xI (zF σ v) = xI σ := rfl
theorem zF_R (σ : CS) (v : Nat → Int64) : xR (zF σ v) = xR σ := rfl
theorem zF_T (σ : CS) (v : Nat → Int64) : xT (zF σ v) = xT σ := rfl
theorem zF_W (σ : CS) (v : Nat → Int64) : xW (zF σ v) = xW σ := rfl
theorem zF_F (σ : CS) (v : Nat → Int64) : xF (zF σ v) = v := rfl
theorem zF_G (σ : CS) (v : Nat → Int64) : xG (zF σ v) = xG σ := rfl
theorem zF_O (σ : CS) (v : Nat → Int64) : xO (zF σ v) = xO σ := rfl
theorem zF_H (σ : CS) (v : Nat → Int64) : xH (zF σ v) = xH σ := rfl
theorem zF_V (σ : CS) (v : Nat → Int64) : xV (zF σ v) = xV σ := rfl
theorem zF_S (σ : CS) (v : Nat → Int64) : xS (zF σ v) = xS σ := rfl
theorem zF_C (σ : CS) (v : Nat → Int64) : xC (zF σ v) = xC σ := rfl
theorem zF_Q (σ : CS) (v : Nat → Int64) : xQ (zF σ v) = xQ σ := rfl
theorem zG_M (σ : CS) (v : Nat → Nat) : xM (zG σ v) = xM σ := rfl
theorem zG_I (σ : CS) (v : Nat → Nat) : xI (zG σ v) = xI σ := rfl
theorem zG_R (σ : CS) (v : Nat → Nat) : xR (zG σ v) = xR σ := rfl
theorem zG_T (σ : CS) (v : Nat → Nat) : xT (zG σ v) = xT σ := rfl
theorem zG_W (σ : CS) (v : Nat → Nat) : xW (zG σ v) = xW σ := rfl
theorem zG_F (σ : CS) (v : Nat → Nat) : xF (zG σ v) = xF σ := rfl
theorem zG_G (σ : CS) (v : Nat → Nat) : xG (zG σ v) = v := rfl
theorem zG_O (σ : CS) (v : Nat → Nat) : xO (zG σ v) = xO σ := rfl
theorem zG_H (σ : CS) (v : Nat → Nat) : xH (zG σ v) = xH σ := rfl
theorem zG_V (σ : CS) (v : Nat → Nat) : xV (zG σ v) = xV σ := rfl
theorem zG_S (σ : CS) (v : Nat → Nat) : xS (zG σ v) = xS σ := rfl
theorem zG_C (σ : CS) (v : Nat → Nat) : xC (zG σ v) = xC σ := rfl
theorem zG_Q (σ : CS) (v : Nat → Nat) : xQ (zG σ v) = xQ σ := rfl
theorem zO_M (σ : CS) (v : Nat) : xM (zO σ v) = xM σ := rfl
theorem zO_I (σ : CS) (v : Nat) : xI (zO σ v) = xI σ := rfl
theorem zO_R (σ : CS) (v : Nat) : xR (zO σ v) = xR σ := rfl
theorem zO_T (σ : CS) (v : Nat) : xT (zO σ v) = xT σ := rfl
theorem zO_W (σ : CS) (v : Nat) : xW (zO σ v) = xW σ := rfl
theorem zO_F (σ : CS) (v : Nat) : xF (zO σ v) = xF σ := rfl
theorem zO_G (σ : CS) (v : Nat) : xG (zO σ v) = xG σ := rfl
theorem zO_O (σ : CS) (v : Nat) : xO (zO σ v) = v := rfl
theorem zO_H (σ : CS) (v : Nat) : xH (zO σ v) = xH σ := rfl
theorem zO_V (σ : CS) (v : Nat) : xV (zO σ v) = xV σ := rfl
theorem zO_S (σ : CS) (v : Nat) : xS (zO σ v) = xS σ := rfl
theorem zO_C (σ : CS) (v : Nat) : xC (zO σ v) = xC σ := rfl
theorem zO_Q (σ : CS) (v : Nat) : xQ (zO σ v) = xQ σ := rfl
theorem zH_M (σ : CS) (v : Nat) : xM (zH σ v) = xM σ := rfl
theorem zH_I (σ : CS) (v : Nat) : xI (zH σ v) = xI σ := rfl
theorem zH_R (σ : CS) (v : Nat) : xR (zH σ v) = xR σ := rfl
theorem zH_T (σ : CS) (v : Nat) : xT (zH σ v) = xT σ := rfl
theorem zH_W (σ : CS) (v : Nat) : xW (zH σ v) = xW σ := rfl
theorem zH_F (σ : CS) (v : Nat) : xF (zH σ v) = xF σ := rfl
theorem zH_G (σ : CS) (v : Nat) : xG (zH σ v) = xG σ := rfl
theorem zH_O (σ : CS) (v : Nat) : xO (zH σ v) = xO σ := rfl
theorem zH_H (σ : CS) (v : Nat) : xH (zH σ v) = v := rfl
theorem zH_V (σ : CS) (v : Nat) : xV (zH σ v) = xV σ := rfl
theorem zH_S (σ : CS) (v : Nat) : xS (zH σ v) = xS σ := rfl
theorem zH_C (σ : CS) (v : Nat) : xC (zH σ v) = xC σ := rfl
theorem zH_Q (σ : CS) (v : Nat) : xQ (zH σ v) = xQ σ := rfl
theorem zV_M (σ : CS) (v : Int32) : xM (zV σ v) = xM σ := rfl
theorem zV_I (σ : CS) (v : Int32) : xI (zV σ v) = xI σ := rfl
theorem zV_R (σ : CS) (v : Int32) : xR (zV σ v) = xR σ := rfl
theorem zV_T (σ : CS) (v : Int32) : xT (zV σ v) = xT σ := rfl
theorem zV_W (σ : CS) (v : Int32) : xW (zV σ v) = xW σ := rfl
theorem zV_F (σ : CS) (v : Int32) : xF (zV σ v) = xF σ := rfl
theorem zV_G (σ : CS) (v : Int32) : xG (zV σ v) = xG σ := rfl
theorem zV_O (σ : CS) (v : Int32) : xO (zV σ v) = xO σ := rfl
theorem zV_H (σ : CS) (v : Int32) : xH (zV σ v) = xH σ := rfl
theorem zV_V (σ : CS) (v : Int32) : xV (zV σ v) = v := rfl
theorem zV_S (σ : CS) (v : Int32) : xS (zV σ v) = xS σ := rfl
theorem zV_C (σ : CS) (v : Int32) : xC (zV σ v) = xC σ := rfl
theorem zV_Q (σ : CS) (v : Int32) : xQ (zV σ v) = xQ σ := rfl
theorem zS_M (σ : CS) (v : Int32) : xM (zS σ v) = xM σ := rfl
theorem zS_I (σ : CS) (v : Int32) : xI (zS σ v) = xI σ := rfl
theorem zS_R (σ : CS) (v : Int32) : xR (zS σ v) = xR σ := rfl
theorem zS_T (σ : CS) (v : Int32) : xT (zS σ v) = xT σ := rfl
theorem zS_W (σ : CS) (v : Int32) : xW (zS σ v) = xW σ := rfl
theorem zS_F (σ : CS) (v : Int32) : xF (zS σ v) = xF σ := rfl
theorem zS_G (σ : CS) (v : Int32) : xG (zS σ v) = xG σ := rfl
theorem zS_O (σ : CS) (v : Int32) : xO (zS σ v) = xO σ := rfl
theorem zS_H (σ : CS) (v : Int32) : xH (zS σ v) = xH σ := rfl
theorem zS_V (σ : CS) (v : Int32) : xV (zS σ v) = xV σ := rfl
theorem zS_S (σ : CS) (v : Int32) : xS (zS σ v) = v := rfl
theorem zS_C (σ : CS) (v : Int32) : xC (zS σ v) = xC σ := rfl
theorem zS_Q (σ : CS) (v : Int32) : xQ (zS σ v) = xQ σ := rfl
theorem zC_M (σ : CS) (v : Bool) : xM (zC σ v) = xM σ := rfl
theorem zC_I (σ : CS) (v : Bool) : xI (zC σ v) = xI σ := rfl
theorem zC_R (σ : CS) (v : Bool) : xR (zC σ v) = xR σ := rfl
theorem zC_T (σ : CS) (v : Bool) : xT (zC σ v) = xT σ := rfl
theorem zC_W (σ : CS) (v : Bool) : xW (zC σ v) = xW σ := rfl
theorem zC_F (σ : CS) (v : Bool) : xF (zC σ v) = xF σ := rfl
theorem zC_G (σ : CS) (v : Bool) : xG (zC σ v) = xG σ := rfl
theorem zC_O (σ : CS) (v : Bool) : xO (zC σ v) = xO σ := rfl
theorem zC_H (σ : CS) (v : Bool) : xH (zC σ v) = xH σ := rfl
theorem zC_V (σ : CS) (v : Bool) : xV (zC σ v) = xV σ := rfl
theorem zC_S (σ : CS) (v : Bool) : xS (zC σ v) = xS σ := rfl
theorem zC_C (σ : CS) (v : Bool) : xC (zC σ v) = v := rfl
theorem zC_Q (σ : CS) (v : Bool) : xQ (zC σ v) = xQ σ := rfl
theorem zQ_M (σ : CS) (v : Int32 × Int32 × Int32) : xM (zQ σ v) = xM σ := rfl
theorem zQ_I (σ : CS) (v : Int32 × Int32 × Int32) : xI (zQ σ v) = xI σ := rfl
theorem zQ_R (σ : CS) (v : Int32 × Int32 × Int32) : xR (zQ σ v) = xR σ := rfl
theorem zQ_T (σ : CS) (v : Int32 × Int32 × Int32) : xT (zQ σ v) = xT σ := rfl
theorem zQ_W (σ : CS) (v : Int32 × Int32 × Int32) : xW (zQ σ v) = xW σ := rfl
theorem zQ_F (σ : CS) (v : Int32 × Int32 × Int32) : xF (zQ σ v) = xF σ := rfl
theorem zQ_G (σ : CS) (v : Int32 × Int32 × Int32) : xG (zQ σ v) = xG σ := rfl
theorem zQ_O (σ : CS) (v : Int32 × Int32 × Int32) : xO (zQ σ v) = xO σ := rfl
theorem zQ_H (σ : CS) (v : Int32 × Int32 × Int32) : xH (zQ σ v) = xH σ := rfl
theorem zQ_V (σ : CS) (v : Int32 × Int32 × Int32) : xV (zQ σ v) = xV σ := rfl
theorem zQ_S (σ : CS) (v : Int32 × Int32 × Int32) : xS (zQ σ v) = xS σ := rfl
theorem zQ_C (σ : CS) (v : Int32 × Int32 × Int32) : xC (zQ σ v) = xC σ := rfl
theorem zQ_Q (σ : CS) (v : Int32 × Int32 × Int32) : xQ (zQ σ v) = v := rfl
def itC (d : Da) (mk il : Bool) : Ce := .inr (0, [.long d.1, .int (nI (setN d.1)), .long (bitI d.1), .int (nI (plc d)), .int (nI d.2.1), .int d.2.2.1, .int d.2.2.2, .int (bI mk), .int (bI il)])
def cwk (ad ar ow cap : Nat → Nat) (it : Nat → Da) (σ : CS) (sz : Nat → Int32) (ct : Nat → Nat → Option Nat) (k a : Nat) : Option Ce := match k with
  | 1 => some (itC (it a) (xM σ a) (xI σ a))
  | 2 => some (.inr (2, [.ref (ar a), .int (sz a)]))
  | 3 => some (.inl (3, cap (ow a), fun j => va_rf (ct (ow a) j)))
  | 4 => some (.inr (4, [.ref (ad 3), .ref (ad 1), .ref (ad 2), .int (bI (xC σ)), .int (xQ σ).1, .int (xQ σ).2.1, .int (xQ σ).2.2]))
  | 5 => some (.inr (3, [.ref (ad 4), .ref (ad 5), .ref (ad 3), .ref (ad 8), .int (xS σ)]))
  | 6 => some (.inr (1, [.ref (ad 6), .ref (ad 7), .ref (xO σ), .ref (ad 10), .ref (ad 9), .ref (ad 1), .ref (ad 3), .int (nI (xH σ)), .int (xV σ)]))
  | 7 => some (.inl (0, 12, fun j => .int (xT σ j)))
  | 8 => some (.inl (4, 64, fun j => va_rf (some (ad (11 + j)))))
  | 9 => some (.inl (1, 64, fun j => .long (xF σ j)))
  | 10 => some (.inl (4, 32, fun j => va_rf (some (xG σ j))))
  | 11 => some (.inl (0, 8, fun j => .int (nI (xW σ j))))
  | _ => none
def cw (ad ar ow cap kd : Nat → Nat) (it : Nat → Da) (σ : CS) (sz : Nat → Int32) (ct : Nat → Nat → Option Nat) : Wd := fun a => cwk ad ar ow cap it σ sz ct (kd a) a
/-- the layout: which address is what -/
def CSt (ad ar ow cap kd : Nat → Nat) : Prop := (∀ j, j < 8 → ∀ a, kd a = 4 + j ↔ a = ad j) ∧ (∀ j, 8 ≤ j → j < 75 → kd (ad j) = 2) ∧ (∀ r, kd r = 2 → kd (ar r) = 3 ∧ ow (ar r) = r ∧ cap r ≤ 1000) ∧ (∀ a, kd a = 3 → kd (ow a) = 2 ∧ ar (ow a) = a) ∧ (∀ i j, i < 75 → j < 75 → ad i = ad j → i = j)
/-- the rows as lists -/
def RLs (cap kd : Nat → Nat) (σ : CS) (sz : Nat → Int32) (ct : Nat → Nat → Option Nat) : Prop := ∀ r, kd r = 2 → sz r = nI (xR σ r).length ∧ (xR σ r).length ≤ cap r ∧ ∀ j x, (xR σ r)[j]? = some x → ct r j = x
def CH (G : Gd) (A : Nat → Prop) (ad ar ow cap kd : Nat → Nat) (it : Nat → Da) (σ : CS) : Heap → Prop := fun H => ∃ μ : (Nat → Int32) × (Nat → Nat → Option Nat), RLs cap kd σ μ.1 μ.2 ∧ Hd G A (cw ad ar ow cap kd it σ μ.1 μ.2) H
section CROWS
variable {p : Program} {l : Launch} {e : Env} {s : State} {m : MethodId} {args : Array Value} {below : List Frame} {meth : Method} {c : Code} {R : Room} {own : String} {cc : ByteArray} {nL : Nat} {rt : Option FieldType} {G : Gd} {A : Nat → Prop} {Q : State → Prop} {k n : Nat} {pc : Nat} {lv : List (Option Value)} {st : List Value} {ad ar ow cap kd : Nat → Nat} {it : Nat → Da} {σ : CS} {sz : Nat → Int32} {ct : Nat → Nat → Option Nat}
theorem k_openC (kk : ∀ sz ct, RLs cap kd σ sz ct → K p l e s m args below meth c R own cc nL rt G A Q k n (Hd G A (cw ad ar ow cap kd it σ sz ct)) pc lv st) : K p l e s m args below meth c R own cc nL rt G A Q k n (CH G A ad ar ow cap kd it σ) pc lv st := fun F H locs ls hI hS hl => by
  obtain ⟨⟨sz, ct⟩, hr, hH⟩ := hI
  exact kk sz ct hr F H locs ls hH hS hl
theorem CH.of (h : RLs cap kd σ sz ct) : ∀ H, Hd G A (cw ad ar ow cap kd it σ sz ct) H → CH G A ad ar ow cap kd it σ H := fun H hH => ⟨(sz, ct), h, hH⟩
theorem k_closeC (h : RLs cap kd σ sz ct) (kk : K p l e s m args below meth c R own cc nL rt G A Q k n (CH G A ad ar ow cap kd it σ) pc lv st) : K p l e s m args below meth c R own cc nL rt G A Q k n (Hd G A (cw ad ar ow cap kd it σ sz ct)) pc lv st := k_I (CH.of h) kk
theorem RLs.same {σ' : CS} (h : RLs cap kd σ sz ct) (e : xR σ' = xR σ) : RLs cap kd σ' sz ct := fun r hr => by rw [e]; exact h r hr
theorem cw_at {a q : Nat} (h : kd a = q) : cw ad ar ow cap kd it σ sz ct a = cwk ad ar ow cap it σ sz ct q a := by unfold cw; rw [h]
theorem kd_ad (hst : CSt ad ar ow cap kd) {j : Nat} (hj : j < 8) : kd (ad j) = 4 + j := (hst.1 j hj (ad j)).mpr rfl
theorem kd_row (hst : CSt ad ar ow cap kd) {j : Nat} (h8 : 8 ≤ j) (hj : j < 75) : kd (ad j) = 2 := hst.2.1 j h8 hj
/-- a world that differs at one address alone -/
theorem cw_up {σ' : CS} {sz' : Nat → Int32} {ct' : Nat → Nat → Option Nat} {a : Nat} {x : Ce} (hx : cwk ad ar ow cap it σ' sz' ct' (kd a) a = some x) (ho : ∀ q, q ≠ a → cwk ad ar ow cap it σ' sz' ct' (kd q) q = cwk ad ar ow cap it σ sz ct (kd q) q) : us (cw ad ar ow cap kd it σ sz ct) a x = cw ad ar ow cap kd it σ' sz' ct' := by
  funext q
  by_cases hq : q = a
  · subst hq
    rw [us_same]
    exact hx.symm
  · rw [us_ne _ _ hq]
    exact (ho q hq).symm
theorem h_X2_17 {r : Nat} (hk : kd r = 2) (hd : decode cc pc = .ok (.getfield 17, 3)) (kk : K p l e s m args below meth c R RX2 cc nL rt G A Q k n (CH G A ad ar ow cap kd it σ) (pc + 3) lv (.ref (ar r) :: st)) : K p l e s m args below meth c R RX2 cc nL rt G A Q k n (CH G A ad ar ow cap kd it σ) pc lv (.ref r :: st) := k_openC fun sz ct hr => g_X2_17 hd (cw_at hk) rfl (k_closeC hr kk)
theorem h_X2_23 {r : Nat} (hk : kd r = 2) (hd : decode cc pc = .ok (.getfield 23, 3)) (kk : K p l e s m args below meth c R RX2 cc nL rt G A Q k n (CH G A ad ar ow cap kd it σ) (pc + 3) lv (.int (nI (xR σ r).length) :: st)) : K p l e s m args below meth c R RX2 cc nL rt G A Q k n (CH G A ad ar ow cap kd it σ) pc lv (.ref r :: st) := k_openC fun sz ct hr => g_X2_23 hd (cw_at hk) rfl (by rw [(hr r hk).1]; exact k_closeC hr kk)
theorem h_X3_70 {r : Nat} (hk : kd r = 2) (hd : decode cc pc = .ok (.getfield 70, 3)) (kk : K p l e s m args below meth c R RX3 cc nL rt G A Q k n (CH G A ad ar ow cap kd it σ) (pc + 3) lv (.int (nI (xR σ r).length) :: st)) : K p l e s m args below meth c R RX3 cc nL rt G A Q k n (CH G A ad ar ow cap kd it σ) pc lv (.ref r :: st) := k_openC fun sz ct hr => g_X3_70 hd (cw_at hk) rfl (by rw [(hr r hk).1]; exact k_closeC hr kk)
theorem h_X1_79 {r : Nat} (hk : kd r = 2) (hd : decode cc pc = .ok (.getfield 79, 3)) (kk : K p l e s m args below meth c R RX1 cc nL rt G A Q k n (CH G A ad ar ow cap kd it σ) (pc + 3) lv (.int (nI (xR σ r).length) :: st)) : K p l e s m args below meth c R RX1 cc nL rt G A Q k n (CH G A ad ar ow cap kd it σ) pc lv (.ref r :: st) := k_openC fun sz ct hr => g_X1_79 hd (cw_at hk) rfl (by rw [(hr r hk).1]; exact k_closeC hr kk)
theorem h_X4_100 {r : Nat} (hk : kd r = 2) (hd : decode cc pc = .ok (.getfield 100, 3)) (kk : K p l e s m args below meth c R RX4 cc nL rt G A Q k n (CH G A ad ar ow cap kd it σ) (pc + 3) lv (.int (nI (xR σ r).length) :: st)) : K p l e s m args below meth c R RX4 cc nL rt G A Q k n (CH G A ad ar ow cap kd it σ) pc lv (.ref r :: st) := k_openC fun sz ct hr => g_X4_100 hd (cw_at hk) rfl (by rw [(hr r hk).1]; exact k_closeC hr kk)
theorem h_X3_17 (hst : CSt ad ar ow cap kd) (hd : decode cc pc = .ok (.getfield 17, 3)) (kk : K p l e s m args below meth c R RX3 cc nL rt G A Q k n (CH G A ad ar ow cap kd it σ) (pc + 3) lv (.ref (ad 4) :: st)) : K p l e s m args below meth c R RX3 cc nL rt G A Q k n (CH G A ad ar ow cap kd it σ) pc lv (.ref (ad 1) :: st) := k_openC fun sz ct hr => g_X3_17 hd (cw_at (kd_ad hst (by decide))) rfl (k_closeC hr kk)
theorem h_X4_96 (hst : CSt ad ar ow cap kd) (hd : decode cc pc = .ok (.getfield 96, 3)) (kk : K p l e s m args below meth c R RX4 cc nL rt G A Q k n (CH G A ad ar ow cap kd it σ) (pc + 3) lv (.ref (ad 4) :: st)) : K p l e s m args below meth c R RX4 cc nL rt G A Q k n (CH G A ad ar ow cap kd it σ) pc lv (.ref (ad 1) :: st) := k_openC fun sz ct hr => g_X4_96 hd (cw_at (kd_ad hst (by decide))) rfl (k_closeC hr kk)
theorem h_X3_24 (hst : CSt ad ar ow cap kd) (hd : decode cc pc = .ok (.getfield 24, 3)) (kk : K p l e s m args below meth c R RX3 cc nL rt G A Q k n (CH G A ad ar ow cap kd it σ) (pc + 3) lv (.ref (ad 5) :: st)) : K p l e s m args below meth c R RX3 cc nL rt G A Q k n (CH G A ad ar ow cap kd it σ) pc lv (.ref (ad 1) :: st) := k_openC fun sz ct hr => g_X3_24 hd (cw_at (kd_ad hst (by decide))) rfl (k_closeC hr kk)
theorem h_X4_113 (hst : CSt ad ar ow cap kd) (hd : decode cc pc = .ok (.getfield 113, 3)) (kk : K p l e s m args below meth c R RX4 cc nL rt G A Q k n (CH G A ad ar ow cap kd it σ) (pc + 3) lv (.ref (ad 5) :: st)) : K p l e s m args below meth c R RX4 cc nL rt G A Q k n (CH G A ad ar ow cap kd it σ) pc lv (.ref (ad 1) :: st) := k_openC fun sz ct hr => g_X4_113 hd (cw_at (kd_ad hst (by decide))) rfl (k_closeC hr kk)
theorem h_X3_9 (hst : CSt ad ar ow cap kd) (hd : decode cc pc = .ok (.getfield 9, 3)) (kk : K p l e s m args below meth c R RX3 cc nL rt G A Q k n (CH G A ad ar ow cap kd it σ) (pc + 3) lv (.ref (ad 3) :: st)) : K p l e s m args below meth c R RX3 cc nL rt G A Q k n (CH G A ad ar ow cap kd it σ) pc lv (.ref (ad 1) :: st) := k_openC fun sz ct hr => g_X3_9 hd (cw_at (kd_ad hst (by decide))) rfl (k_closeC hr kk)
theorem h_X3_28 (hst : CSt ad ar ow cap kd) (hd : decode cc pc = .ok (.getfield 28, 3)) (kk : K p l e s m args below meth c R RX3 cc nL rt G A Q k n (CH G A ad ar ow cap kd it σ) (pc + 3) lv (.ref (ad 8) :: st)) : K p l e s m args below meth c R RX3 cc nL rt G A Q k n (CH G A ad ar ow cap kd it σ) pc lv (.ref (ad 1) :: st) := k_openC fun sz ct hr => g_X3_28 hd (cw_at (kd_ad hst (by decide))) rfl (k_closeC hr kk)
theorem h_X3_63 (hst : CSt ad ar ow cap kd) (hd : decode cc pc = .ok (.getfield 63, 3)) (kk : K p l e s m args below meth c R RX3 cc nL rt G A Q k n (CH G A ad ar ow cap kd it σ) (pc + 3) lv (.int (xS σ) :: st)) : K p l e s m args below meth c R RX3 cc nL rt G A Q k n (CH G A ad ar ow cap kd it σ) pc lv (.ref (ad 1) :: st) := k_openC fun sz ct hr => g_X3_63 hd (cw_at (kd_ad hst (by decide))) rfl (k_closeC hr kk)
theorem hp_X3_63 {x : Int32} {v : Value} (hst : CSt ad ar ow cap kd) (hv : v = .int (x)) (hd : decode cc pc = .ok (.putfield 63, 3)) (kk : K p l e s m args below meth c R RX3 cc nL rt G A Q k n (CH G A ad ar ow cap kd it (zS σ x)) (pc + 3) lv st) : K p l e s m args below meth c R RX3 cc nL rt G A Q k n (CH G A ad ar ow cap kd it σ) pc lv (v :: .ref (ad 1) :: st) := k_openC fun sz ct hr => by
  subst hv
  refine p_X3_63 hd (cw_at (kd_ad hst (by decide))) rfl rfl (Nat.le_of_ble_eq_true rfl) ?_
  rw [cw_up (σ' := zS σ x) (sz' := sz) (ct' := ct) (by rw [kd_ad hst (by decide)]; rfl) (fun q hq => by
    have hne : kd q ≠ 5 := fun z => hq ((hst.1 1 (by decide) q).mp z)
    unfold cwk
    split <;> first | rfl | exact absurd (by assumption) hne)]
  exact k_closeC (hr.same rfl) kk
theorem h_X4_132 (hst : CSt ad ar ow cap kd) (hd : decode cc pc = .ok (.getfield 132, 3)) (kk : K p l e s m args below meth c R RX4 cc nL rt G A Q k n (CH G A ad ar ow cap kd it σ) (pc + 3) lv (.int (xS σ) :: st)) : K p l e s m args below meth c R RX4 cc nL rt G A Q k n (CH G A ad ar ow cap kd it σ) pc lv (.ref (ad 1) :: st) := k_openC fun sz ct hr => g_X4_132 hd (cw_at (kd_ad hst (by decide))) rfl (k_closeC hr kk)
theorem hp_X4_132 {x : Int32} {v : Value} (hst : CSt ad ar ow cap kd) (hv : v = .int (x)) (hd : decode cc pc = .ok (.putfield 132, 3)) (kk : K p l e s m args below meth c R RX4 cc nL rt G A Q k n (CH G A ad ar ow cap kd it (zS σ x)) (pc + 3) lv st) : K p l e s m args below meth c R RX4 cc nL rt G A Q k n (CH G A ad ar ow cap kd it σ) pc lv (v :: .ref (ad 1) :: st) := k_openC fun sz ct hr => by
  subst hv
  refine p_X4_132 hd (cw_at (kd_ad hst (by decide))) rfl rfl (Nat.le_of_ble_eq_true rfl) ?_
  rw [cw_up (σ' := zS σ x) (sz' := sz) (ct' := ct) (by rw [kd_ad hst (by decide)]; rfl) (fun q hq => by
    have hne : kd q ≠ 5 := fun z => hq ((hst.1 1 (by decide) q).mp z)
    unfold cwk
    split <;> first | rfl | exact absurd (by assumption) hne)]
  exact k_closeC (hr.same rfl) kk
theorem h_X1_21 (hst : CSt ad ar ow cap kd) (hd : decode cc pc = .ok (.getfield 21, 3)) (kk : K p l e s m args below meth c R RX1 cc nL rt G A Q k n (CH G A ad ar ow cap kd it σ) (pc + 3) lv (.ref (ad 6) :: st)) : K p l e s m args below meth c R RX1 cc nL rt G A Q k n (CH G A ad ar ow cap kd it σ) pc lv (.ref (ad 2) :: st) := k_openC fun sz ct hr => g_X1_21 hd (cw_at (kd_ad hst (by decide))) rfl (k_closeC hr kk)
theorem h_X1_28 (hst : CSt ad ar ow cap kd) (hd : decode cc pc = .ok (.getfield 28, 3)) (kk : K p l e s m args below meth c R RX1 cc nL rt G A Q k n (CH G A ad ar ow cap kd it σ) (pc + 3) lv (.ref (ad 7) :: st)) : K p l e s m args below meth c R RX1 cc nL rt G A Q k n (CH G A ad ar ow cap kd it σ) pc lv (.ref (ad 2) :: st) := k_openC fun sz ct hr => g_X1_28 hd (cw_at (kd_ad hst (by decide))) rfl (k_closeC hr kk)
theorem h_X4_141 (hst : CSt ad ar ow cap kd) (hd : decode cc pc = .ok (.getfield 141, 3)) (kk : K p l e s m args below meth c R RX4 cc nL rt G A Q k n (CH G A ad ar ow cap kd it σ) (pc + 3) lv (.ref (ad 7) :: st)) : K p l e s m args below meth c R RX4 cc nL rt G A Q k n (CH G A ad ar ow cap kd it σ) pc lv (.ref (ad 2) :: st) := k_openC fun sz ct hr => g_X4_141 hd (cw_at (kd_ad hst (by decide))) rfl (k_closeC hr kk)
theorem h_X1_31 (hst : CSt ad ar ow cap kd) (hd : decode cc pc = .ok (.getfield 31, 3)) (kk : K p l e s m args below meth c R RX1 cc nL rt G A Q k n (CH G A ad ar ow cap kd it σ) (pc + 3) lv (.ref (xO σ) :: st)) : K p l e s m args below meth c R RX1 cc nL rt G A Q k n (CH G A ad ar ow cap kd it σ) pc lv (.ref (ad 2) :: st) := k_openC fun sz ct hr => g_X1_31 hd (cw_at (kd_ad hst (by decide))) rfl (k_closeC hr kk)
theorem hp_X1_31 {x : Nat} {v : Value} (hst : CSt ad ar ow cap kd) (hv : v = .ref x) (hd : decode cc pc = .ok (.putfield 31, 3)) (kk : K p l e s m args below meth c R RX1 cc nL rt G A Q k n (CH G A ad ar ow cap kd it (zO σ x)) (pc + 3) lv st) : K p l e s m args below meth c R RX1 cc nL rt G A Q k n (CH G A ad ar ow cap kd it σ) pc lv (v :: .ref (ad 2) :: st) := k_openC fun sz ct hr => by
  subst hv
  refine p_X1_31 hd (cw_at (kd_ad hst (by decide))) rfl rfl (Nat.le_of_ble_eq_true rfl) ?_
  rw [cw_up (σ' := zO σ x) (sz' := sz) (ct' := ct) (by rw [kd_ad hst (by decide)]; rfl) (fun q hq => by
    have hne : kd q ≠ 6 := fun z => hq ((hst.1 2 (by decide) q).mp z)
    unfold cwk
    split <;> first | rfl | exact absurd (by assumption) hne)]
  exact k_closeC (hr.same rfl) kk
theorem h_X4_117 (hst : CSt ad ar ow cap kd) (hd : decode cc pc = .ok (.getfield 117, 3)) (kk : K p l e s m args below meth c R RX4 cc nL rt G A Q k n (CH G A ad ar ow cap kd it σ) (pc + 3) lv (.ref (xO σ) :: st)) : K p l e s m args below meth c R RX4 cc nL rt G A Q k n (CH G A ad ar ow cap kd it σ) pc lv (.ref (ad 2) :: st) := k_openC fun sz ct hr => g_X4_117 hd (cw_at (kd_ad hst (by decide))) rfl (k_closeC hr kk)
theorem hp_X4_117 {x : Nat} {v : Value} (hst : CSt ad ar ow cap kd) (hv : v = .ref x) (hd : decode cc pc = .ok (.putfield 117, 3)) (kk : K p l e s m args below meth c R RX4 cc nL rt G A Q k n (CH G A ad ar ow cap kd it (zO σ x)) (pc + 3) lv st) : K p l e s m args below meth c R RX4 cc nL rt G A Q k n (CH G A ad ar ow cap kd it σ) pc lv (v :: .ref (ad 2) :: st) := k_openC fun sz ct hr => by
  subst hv
  refine p_X4_117 hd (cw_at (kd_ad hst (by decide))) rfl rfl (Nat.le_of_ble_eq_true rfl) ?_
  rw [cw_up (σ' := zO σ x) (sz' := sz) (ct' := ct) (by rw [kd_ad hst (by decide)]; rfl) (fun q hq => by
    have hne : kd q ≠ 6 := fun z => hq ((hst.1 2 (by decide) q).mp z)
    unfold cwk
    split <;> first | rfl | exact absurd (by assumption) hne)]
  exact k_closeC (hr.same rfl) kk
theorem h_X1_35 (hst : CSt ad ar ow cap kd) (hd : decode cc pc = .ok (.getfield 35, 3)) (kk : K p l e s m args below meth c R RX1 cc nL rt G A Q k n (CH G A ad ar ow cap kd it σ) (pc + 3) lv (.ref (ad 10) :: st)) : K p l e s m args below meth c R RX1 cc nL rt G A Q k n (CH G A ad ar ow cap kd it σ) pc lv (.ref (ad 2) :: st) := k_openC fun sz ct hr => g_X1_35 hd (cw_at (kd_ad hst (by decide))) rfl (k_closeC hr kk)
theorem h_X1_38 (hst : CSt ad ar ow cap kd) (hd : decode cc pc = .ok (.getfield 38, 3)) (kk : K p l e s m args below meth c R RX1 cc nL rt G A Q k n (CH G A ad ar ow cap kd it σ) (pc + 3) lv (.ref (ad 9) :: st)) : K p l e s m args below meth c R RX1 cc nL rt G A Q k n (CH G A ad ar ow cap kd it σ) pc lv (.ref (ad 2) :: st) := k_openC fun sz ct hr => g_X1_38 hd (cw_at (kd_ad hst (by decide))) rfl (k_closeC hr kk)
theorem h_X1_9 (hst : CSt ad ar ow cap kd) (hd : decode cc pc = .ok (.getfield 9, 3)) (kk : K p l e s m args below meth c R RX1 cc nL rt G A Q k n (CH G A ad ar ow cap kd it σ) (pc + 3) lv (.ref (ad 1) :: st)) : K p l e s m args below meth c R RX1 cc nL rt G A Q k n (CH G A ad ar ow cap kd it σ) pc lv (.ref (ad 2) :: st) := k_openC fun sz ct hr => g_X1_9 hd (cw_at (kd_ad hst (by decide))) rfl (k_closeC hr kk)
theorem h_X1_15 (hst : CSt ad ar ow cap kd) (hd : decode cc pc = .ok (.getfield 15, 3)) (kk : K p l e s m args below meth c R RX1 cc nL rt G A Q k n (CH G A ad ar ow cap kd it σ) (pc + 3) lv (.ref (ad 3) :: st)) : K p l e s m args below meth c R RX1 cc nL rt G A Q k n (CH G A ad ar ow cap kd it σ) pc lv (.ref (ad 2) :: st) := k_openC fun sz ct hr => g_X1_15 hd (cw_at (kd_ad hst (by decide))) rfl (k_closeC hr kk)
theorem h_X1_62 (hst : CSt ad ar ow cap kd) (hd : decode cc pc = .ok (.getfield 62, 3)) (kk : K p l e s m args below meth c R RX1 cc nL rt G A Q k n (CH G A ad ar ow cap kd it σ) (pc + 3) lv (.int (nI (xH σ)) :: st)) : K p l e s m args below meth c R RX1 cc nL rt G A Q k n (CH G A ad ar ow cap kd it σ) pc lv (.ref (ad 2) :: st) := k_openC fun sz ct hr => g_X1_62 hd (cw_at (kd_ad hst (by decide))) rfl (k_closeC hr kk)
theorem hp_X1_62 {x : Nat} {v : Value} (hst : CSt ad ar ow cap kd) (hv : v = .int (nI x)) (hd : decode cc pc = .ok (.putfield 62, 3)) (kk : K p l e s m args below meth c R RX1 cc nL rt G A Q k n (CH G A ad ar ow cap kd it (zH σ x)) (pc + 3) lv st) : K p l e s m args below meth c R RX1 cc nL rt G A Q k n (CH G A ad ar ow cap kd it σ) pc lv (v :: .ref (ad 2) :: st) := k_openC fun sz ct hr => by
  subst hv
  refine p_X1_62 hd (cw_at (kd_ad hst (by decide))) rfl rfl (Nat.le_of_ble_eq_true rfl) ?_
  rw [cw_up (σ' := zH σ x) (sz' := sz) (ct' := ct) (by rw [kd_ad hst (by decide)]; rfl) (fun q hq => by
    have hne : kd q ≠ 6 := fun z => hq ((hst.1 2 (by decide) q).mp z)
    unfold cwk
    split <;> first | rfl | exact absurd (by assumption) hne)]
  exact k_closeC (hr.same rfl) kk
theorem h_X4_138 (hst : CSt ad ar ow cap kd) (hd : decode cc pc = .ok (.getfield 138, 3)) (kk : K p l e s m args below meth c R RX4 cc nL rt G A Q k n (CH G A ad ar ow cap kd it σ) (pc + 3) lv (.int (nI (xH σ)) :: st)) : K p l e s m args below meth c R RX4 cc nL rt G A Q k n (CH G A ad ar ow cap kd it σ) pc lv (.ref (ad 2) :: st) := k_openC fun sz ct hr => g_X4_138 hd (cw_at (kd_ad hst (by decide))) rfl (k_closeC hr kk)
theorem hp_X4_138 {x : Nat} {v : Value} (hst : CSt ad ar ow cap kd) (hv : v = .int (nI x)) (hd : decode cc pc = .ok (.putfield 138, 3)) (kk : K p l e s m args below meth c R RX4 cc nL rt G A Q k n (CH G A ad ar ow cap kd it (zH σ x)) (pc + 3) lv st) : K p l e s m args below meth c R RX4 cc nL rt G A Q k n (CH G A ad ar ow cap kd it σ) pc lv (v :: .ref (ad 2) :: st) := k_openC fun sz ct hr => by
  subst hv
  refine p_X4_138 hd (cw_at (kd_ad hst (by decide))) rfl rfl (Nat.le_of_ble_eq_true rfl) ?_
  rw [cw_up (σ' := zH σ x) (sz' := sz) (ct' := ct) (by rw [kd_ad hst (by decide)]; rfl) (fun q hq => by
    have hne : kd q ≠ 6 := fun z => hq ((hst.1 2 (by decide) q).mp z)
    unfold cwk
    split <;> first | rfl | exact absurd (by assumption) hne)]
  exact k_closeC (hr.same rfl) kk
theorem h_X1_51 (hst : CSt ad ar ow cap kd) (hd : decode cc pc = .ok (.getfield 51, 3)) (kk : K p l e s m args below meth c R RX1 cc nL rt G A Q k n (CH G A ad ar ow cap kd it σ) (pc + 3) lv (.int (xV σ) :: st)) : K p l e s m args below meth c R RX1 cc nL rt G A Q k n (CH G A ad ar ow cap kd it σ) pc lv (.ref (ad 2) :: st) := k_openC fun sz ct hr => g_X1_51 hd (cw_at (kd_ad hst (by decide))) rfl (k_closeC hr kk)
theorem hp_X1_51 {x : Int32} {v : Value} (hst : CSt ad ar ow cap kd) (hv : v = .int (x)) (hd : decode cc pc = .ok (.putfield 51, 3)) (kk : K p l e s m args below meth c R RX1 cc nL rt G A Q k n (CH G A ad ar ow cap kd it (zV σ x)) (pc + 3) lv st) : K p l e s m args below meth c R RX1 cc nL rt G A Q k n (CH G A ad ar ow cap kd it σ) pc lv (v :: .ref (ad 2) :: st) := k_openC fun sz ct hr => by
  subst hv
  refine p_X1_51 hd (cw_at (kd_ad hst (by decide))) rfl rfl (Nat.le_of_ble_eq_true rfl) ?_
  rw [cw_up (σ' := zV σ x) (sz' := sz) (ct' := ct) (by rw [kd_ad hst (by decide)]; rfl) (fun q hq => by
    have hne : kd q ≠ 6 := fun z => hq ((hst.1 2 (by decide) q).mp z)
    unfold cwk
    split <;> first | rfl | exact absurd (by assumption) hne)]
  exact k_closeC (hr.same rfl) kk
theorem h_X4_129 (hst : CSt ad ar ow cap kd) (hd : decode cc pc = .ok (.getfield 129, 3)) (kk : K p l e s m args below meth c R RX4 cc nL rt G A Q k n (CH G A ad ar ow cap kd it σ) (pc + 3) lv (.int (xV σ) :: st)) : K p l e s m args below meth c R RX4 cc nL rt G A Q k n (CH G A ad ar ow cap kd it σ) pc lv (.ref (ad 2) :: st) := k_openC fun sz ct hr => g_X4_129 hd (cw_at (kd_ad hst (by decide))) rfl (k_closeC hr kk)
theorem hp_X4_129 {x : Int32} {v : Value} (hst : CSt ad ar ow cap kd) (hv : v = .int (x)) (hd : decode cc pc = .ok (.putfield 129, 3)) (kk : K p l e s m args below meth c R RX4 cc nL rt G A Q k n (CH G A ad ar ow cap kd it (zV σ x)) (pc + 3) lv st) : K p l e s m args below meth c R RX4 cc nL rt G A Q k n (CH G A ad ar ow cap kd it σ) pc lv (v :: .ref (ad 2) :: st) := k_openC fun sz ct hr => by
  subst hv
  refine p_X4_129 hd (cw_at (kd_ad hst (by decide))) rfl rfl (Nat.le_of_ble_eq_true rfl) ?_
  rw [cw_up (σ' := zV σ x) (sz' := sz) (ct' := ct) (by rw [kd_ad hst (by decide)]; rfl) (fun q hq => by
    have hne : kd q ≠ 6 := fun z => hq ((hst.1 2 (by decide) q).mp z)
    unfold cwk
    split <;> first | rfl | exact absurd (by assumption) hne)]
  exact k_closeC (hr.same rfl) kk
theorem h_X4_9 (hst : CSt ad ar ow cap kd) (hd : decode cc pc = .ok (.getfield 9, 3)) (kk : K p l e s m args below meth c R RX4 cc nL rt G A Q k n (CH G A ad ar ow cap kd it σ) (pc + 3) lv (.ref (ad 3) :: st)) : K p l e s m args below meth c R RX4 cc nL rt G A Q k n (CH G A ad ar ow cap kd it σ) pc lv (.ref (ad 0) :: st) := k_openC fun sz ct hr => g_X4_9 hd (cw_at (kd_ad hst (by decide))) rfl (k_closeC hr kk)
theorem h_X4_18 (hst : CSt ad ar ow cap kd) (hd : decode cc pc = .ok (.getfield 18, 3)) (kk : K p l e s m args below meth c R RX4 cc nL rt G A Q k n (CH G A ad ar ow cap kd it σ) (pc + 3) lv (.ref (ad 1) :: st)) : K p l e s m args below meth c R RX4 cc nL rt G A Q k n (CH G A ad ar ow cap kd it σ) pc lv (.ref (ad 0) :: st) := k_openC fun sz ct hr => g_X4_18 hd (cw_at (kd_ad hst (by decide))) rfl (k_closeC hr kk)
theorem h_X4_27 (hst : CSt ad ar ow cap kd) (hd : decode cc pc = .ok (.getfield 27, 3)) (kk : K p l e s m args below meth c R RX4 cc nL rt G A Q k n (CH G A ad ar ow cap kd it σ) (pc + 3) lv (.ref (ad 2) :: st)) : K p l e s m args below meth c R RX4 cc nL rt G A Q k n (CH G A ad ar ow cap kd it σ) pc lv (.ref (ad 0) :: st) := k_openC fun sz ct hr => g_X4_27 hd (cw_at (kd_ad hst (by decide))) rfl (k_closeC hr kk)
theorem h_X4_31 (hst : CSt ad ar ow cap kd) (hd : decode cc pc = .ok (.getfield 31, 3)) (kk : K p l e s m args below meth c R RX4 cc nL rt G A Q k n (CH G A ad ar ow cap kd it σ) (pc + 3) lv (.int (bI (xC σ)) :: st)) : K p l e s m args below meth c R RX4 cc nL rt G A Q k n (CH G A ad ar ow cap kd it σ) pc lv (.ref (ad 0) :: st) := k_openC fun sz ct hr => g_X4_31 hd (cw_at (kd_ad hst (by decide))) rfl (k_closeC hr kk)
theorem hp_X4_31 {x : Bool} {v : Value} (hst : CSt ad ar ow cap kd) (hv : v = .int (bI x)) (hd : decode cc pc = .ok (.putfield 31, 3)) (kk : K p l e s m args below meth c R RX4 cc nL rt G A Q k n (CH G A ad ar ow cap kd it (zC σ x)) (pc + 3) lv st) : K p l e s m args below meth c R RX4 cc nL rt G A Q k n (CH G A ad ar ow cap kd it σ) pc lv (v :: .ref (ad 0) :: st) := k_openC fun sz ct hr => by
  subst hv
  refine p_X4_31 hd (cw_at (kd_ad hst (by decide))) (bI_nar x) (by cases x <;> rfl) (Nat.le_of_ble_eq_true rfl) ?_
  rw [cw_up (σ' := zC σ x) (sz' := sz) (ct' := ct) (by rw [kd_ad hst (by decide)]; rfl) (fun q hq => by
    have hne : kd q ≠ 4 := fun z => hq ((hst.1 0 (by decide) q).mp z)
    unfold cwk
    split <;> first | rfl | exact absurd (by assumption) hne)]
  exact k_closeC (hr.same rfl) kk
theorem h_X4_62 (hst : CSt ad ar ow cap kd) (hd : decode cc pc = .ok (.getfield 62, 3)) (kk : K p l e s m args below meth c R RX4 cc nL rt G A Q k n (CH G A ad ar ow cap kd it σ) (pc + 3) lv (.int (xQ σ).1 :: st)) : K p l e s m args below meth c R RX4 cc nL rt G A Q k n (CH G A ad ar ow cap kd it σ) pc lv (.ref (ad 0) :: st) := k_openC fun sz ct hr => g_X4_62 hd (cw_at (kd_ad hst (by decide))) rfl (k_closeC hr kk)
theorem hp_X4_62 {x : Int32} {v : Value} (hst : CSt ad ar ow cap kd) (hv : v = .int (x)) (hd : decode cc pc = .ok (.putfield 62, 3)) (kk : K p l e s m args below meth c R RX4 cc nL rt G A Q k n (CH G A ad ar ow cap kd it (zQ σ (x, (xQ σ).2))) (pc + 3) lv st) : K p l e s m args below meth c R RX4 cc nL rt G A Q k n (CH G A ad ar ow cap kd it σ) pc lv (v :: .ref (ad 0) :: st) := k_openC fun sz ct hr => by
  subst hv
  refine p_X4_62 hd (cw_at (kd_ad hst (by decide))) rfl rfl (Nat.le_of_ble_eq_true rfl) ?_
  rw [cw_up (σ' := zQ σ (x, (xQ σ).2)) (sz' := sz) (ct' := ct) (by rw [kd_ad hst (by decide)]; rfl) (fun q hq => by
    have hne : kd q ≠ 4 := fun z => hq ((hst.1 0 (by decide) q).mp z)
    unfold cwk
    split <;> first | rfl | exact absurd (by assumption) hne)]
  exact k_closeC (hr.same rfl) kk
theorem h_X4_68 (hst : CSt ad ar ow cap kd) (hd : decode cc pc = .ok (.getfield 68, 3)) (kk : K p l e s m args below meth c R RX4 cc nL rt G A Q k n (CH G A ad ar ow cap kd it σ) (pc + 3) lv (.int (xQ σ).2.1 :: st)) : K p l e s m args below meth c R RX4 cc nL rt G A Q k n (CH G A ad ar ow cap kd it σ) pc lv (.ref (ad 0) :: st) := k_openC fun sz ct hr => g_X4_68 hd (cw_at (kd_ad hst (by decide))) rfl (k_closeC hr kk)
theorem hp_X4_68 {x : Int32} {v : Value} (hst : CSt ad ar ow cap kd) (hv : v = .int (x)) (hd : decode cc pc = .ok (.putfield 68, 3)) (kk : K p l e s m args below meth c R RX4 cc nL rt G A Q k n (CH G A ad ar ow cap kd it (zQ σ ((xQ σ).1, x, (xQ σ).2.2))) (pc + 3) lv st) : K p l e s m args below meth c R RX4 cc nL rt G A Q k n (CH G A ad ar ow cap kd it σ) pc lv (v :: .ref (ad 0) :: st) := k_openC fun sz ct hr => by
  subst hv
  refine p_X4_68 hd (cw_at (kd_ad hst (by decide))) rfl rfl (Nat.le_of_ble_eq_true rfl) ?_
  rw [cw_up (σ' := zQ σ ((xQ σ).1, x, (xQ σ).2.2)) (sz' := sz) (ct' := ct) (by rw [kd_ad hst (by decide)]; rfl) (fun q hq => by
    have hne : kd q ≠ 4 := fun z => hq ((hst.1 0 (by decide) q).mp z)
    unfold cwk
    split <;> first | rfl | exact absurd (by assumption) hne)]
  exact k_closeC (hr.same rfl) kk
theorem h_X4_74 (hst : CSt ad ar ow cap kd) (hd : decode cc pc = .ok (.getfield 74, 3)) (kk : K p l e s m args below meth c R RX4 cc nL rt G A Q k n (CH G A ad ar ow cap kd it σ) (pc + 3) lv (.int (xQ σ).2.2 :: st)) : K p l e s m args below meth c R RX4 cc nL rt G A Q k n (CH G A ad ar ow cap kd it σ) pc lv (.ref (ad 0) :: st) := k_openC fun sz ct hr => g_X4_74 hd (cw_at (kd_ad hst (by decide))) rfl (k_closeC hr kk)
theorem hp_X4_74 {x : Int32} {v : Value} (hst : CSt ad ar ow cap kd) (hv : v = .int (x)) (hd : decode cc pc = .ok (.putfield 74, 3)) (kk : K p l e s m args below meth c R RX4 cc nL rt G A Q k n (CH G A ad ar ow cap kd it (zQ σ ((xQ σ).1, (xQ σ).2.1, x))) (pc + 3) lv st) : K p l e s m args below meth c R RX4 cc nL rt G A Q k n (CH G A ad ar ow cap kd it σ) pc lv (v :: .ref (ad 0) :: st) := k_openC fun sz ct hr => by
  subst hv
  refine p_X4_74 hd (cw_at (kd_ad hst (by decide))) rfl rfl (Nat.le_of_ble_eq_true rfl) ?_
  rw [cw_up (σ' := zQ σ ((xQ σ).1, (xQ σ).2.1, x)) (sz' := sz) (ct' := ct) (by rw [kd_ad hst (by decide)]; rfl) (fun q hq => by
    have hne : kd q ≠ 4 := fun z => hq ((hst.1 0 (by decide) q).mp z)
    unfold cwk
    split <;> first | rfl | exact absurd (by assumption) hne)]
  exact k_closeC (hr.same rfl) kk
theorem h_X0_13 {a : Nat} (hk : kd a = 1) (hd : decode cc pc = .ok (.getfield 13, 3)) (kk : K p l e s m args below meth c R RX0 cc nL rt G A Q k n (CH G A ad ar ow cap kd it σ) (pc + 3) lv (.long (it a).1 :: st)) : K p l e s m args below meth c R RX0 cc nL rt G A Q k n (CH G A ad ar ow cap kd it σ) pc lv (.ref a :: st) := k_openC fun sz ct hr => g_X0_13 hd (cw_at hk) rfl (k_closeC hr kk)
theorem h_X3_95 {a : Nat} (hk : kd a = 1) (hd : decode cc pc = .ok (.getfield 95, 3)) (kk : K p l e s m args below meth c R RX3 cc nL rt G A Q k n (CH G A ad ar ow cap kd it σ) (pc + 3) lv (.long (it a).1 :: st)) : K p l e s m args below meth c R RX3 cc nL rt G A Q k n (CH G A ad ar ow cap kd it σ) pc lv (.ref a :: st) := k_openC fun sz ct hr => g_X3_95 hd (cw_at hk) rfl (k_closeC hr kk)
theorem h_X1_114 {a : Nat} (hk : kd a = 1) (hd : decode cc pc = .ok (.getfield 114, 3)) (kk : K p l e s m args below meth c R RX1 cc nL rt G A Q k n (CH G A ad ar ow cap kd it σ) (pc + 3) lv (.long (it a).1 :: st)) : K p l e s m args below meth c R RX1 cc nL rt G A Q k n (CH G A ad ar ow cap kd it σ) pc lv (.ref a :: st) := k_openC fun sz ct hr => g_X1_114 hd (cw_at hk) rfl (k_closeC hr kk)
theorem h_X2_42 {a : Nat} (hk : kd a = 1) (hd : decode cc pc = .ok (.getfield 42, 3)) (kk : K p l e s m args below meth c R RX2 cc nL rt G A Q k n (CH G A ad ar ow cap kd it σ) (pc + 3) lv (.long (it a).1 :: st)) : K p l e s m args below meth c R RX2 cc nL rt G A Q k n (CH G A ad ar ow cap kd it σ) pc lv (.ref a :: st) := k_openC fun sz ct hr => g_X2_42 hd (cw_at hk) rfl (k_closeC hr kk)
theorem h_X4_109 {a : Nat} (hk : kd a = 1) (hd : decode cc pc = .ok (.getfield 109, 3)) (kk : K p l e s m args below meth c R RX4 cc nL rt G A Q k n (CH G A ad ar ow cap kd it σ) (pc + 3) lv (.long (it a).1 :: st)) : K p l e s m args below meth c R RX4 cc nL rt G A Q k n (CH G A ad ar ow cap kd it σ) pc lv (.ref a :: st) := k_openC fun sz ct hr => g_X4_109 hd (cw_at hk) rfl (k_closeC hr kk)
theorem h_X0_23 {a : Nat} (hk : kd a = 1) (hd : decode cc pc = .ok (.getfield 23, 3)) (kk : K p l e s m args below meth c R RX0 cc nL rt G A Q k n (CH G A ad ar ow cap kd it σ) (pc + 3) lv (.int (nI (setN (it a).1)) :: st)) : K p l e s m args below meth c R RX0 cc nL rt G A Q k n (CH G A ad ar ow cap kd it σ) pc lv (.ref a :: st) := k_openC fun sz ct hr => g_X0_23 hd (cw_at hk) rfl (k_closeC hr kk)
theorem h_X3_54 {a : Nat} (hk : kd a = 1) (hd : decode cc pc = .ok (.getfield 54, 3)) (kk : K p l e s m args below meth c R RX3 cc nL rt G A Q k n (CH G A ad ar ow cap kd it σ) (pc + 3) lv (.int (nI (setN (it a).1)) :: st)) : K p l e s m args below meth c R RX3 cc nL rt G A Q k n (CH G A ad ar ow cap kd it σ) pc lv (.ref a :: st) := k_openC fun sz ct hr => g_X3_54 hd (cw_at hk) rfl (k_closeC hr kk)
theorem h_X2_39 {a : Nat} (hk : kd a = 1) (hd : decode cc pc = .ok (.getfield 39, 3)) (kk : K p l e s m args below meth c R RX2 cc nL rt G A Q k n (CH G A ad ar ow cap kd it σ) (pc + 3) lv (.int (nI (setN (it a).1)) :: st)) : K p l e s m args below meth c R RX2 cc nL rt G A Q k n (CH G A ad ar ow cap kd it σ) pc lv (.ref a :: st) := k_openC fun sz ct hr => g_X2_39 hd (cw_at hk) rfl (k_closeC hr kk)
theorem h_X1_89 {a : Nat} (hk : kd a = 1) (hd : decode cc pc = .ok (.getfield 89, 3)) (kk : K p l e s m args below meth c R RX1 cc nL rt G A Q k n (CH G A ad ar ow cap kd it σ) (pc + 3) lv (.int (nI (setN (it a).1)) :: st)) : K p l e s m args below meth c R RX1 cc nL rt G A Q k n (CH G A ad ar ow cap kd it σ) pc lv (.ref a :: st) := k_openC fun sz ct hr => g_X1_89 hd (cw_at hk) rfl (k_closeC hr kk)
theorem h_X0_30 {a : Nat} (hk : kd a = 1) (hd : decode cc pc = .ok (.getfield 30, 3)) (kk : K p l e s m args below meth c R RX0 cc nL rt G A Q k n (CH G A ad ar ow cap kd it σ) (pc + 3) lv (.long (bitI (it a).1) :: st)) : K p l e s m args below meth c R RX0 cc nL rt G A Q k n (CH G A ad ar ow cap kd it σ) pc lv (.ref a :: st) := k_openC fun sz ct hr => g_X0_30 hd (cw_at hk) rfl (k_closeC hr kk)
theorem h_X2_52 {a : Nat} (hk : kd a = 1) (hd : decode cc pc = .ok (.getfield 52, 3)) (kk : K p l e s m args below meth c R RX2 cc nL rt G A Q k n (CH G A ad ar ow cap kd it σ) (pc + 3) lv (.long (bitI (it a).1) :: st)) : K p l e s m args below meth c R RX2 cc nL rt G A Q k n (CH G A ad ar ow cap kd it σ) pc lv (.ref a :: st) := k_openC fun sz ct hr => g_X2_52 hd (cw_at hk) rfl (k_closeC hr kk)
theorem h_X0_33 {a : Nat} (hk : kd a = 1) (hd : decode cc pc = .ok (.getfield 33, 3)) (kk : K p l e s m args below meth c R RX0 cc nL rt G A Q k n (CH G A ad ar ow cap kd it σ) (pc + 3) lv (.int (nI (plc (it a))) :: st)) : K p l e s m args below meth c R RX0 cc nL rt G A Q k n (CH G A ad ar ow cap kd it σ) pc lv (.ref a :: st) := k_openC fun sz ct hr => g_X0_33 hd (cw_at hk) rfl (k_closeC hr kk)
theorem h_X3_107 {a : Nat} (hk : kd a = 1) (hd : decode cc pc = .ok (.getfield 107, 3)) (kk : K p l e s m args below meth c R RX3 cc nL rt G A Q k n (CH G A ad ar ow cap kd it σ) (pc + 3) lv (.int (nI (plc (it a))) :: st)) : K p l e s m args below meth c R RX3 cc nL rt G A Q k n (CH G A ad ar ow cap kd it σ) pc lv (.ref a :: st) := k_openC fun sz ct hr => g_X3_107 hd (cw_at hk) rfl (k_closeC hr kk)
theorem h_X2_46 {a : Nat} (hk : kd a = 1) (hd : decode cc pc = .ok (.getfield 46, 3)) (kk : K p l e s m args below meth c R RX2 cc nL rt G A Q k n (CH G A ad ar ow cap kd it σ) (pc + 3) lv (.int (nI (plc (it a))) :: st)) : K p l e s m args below meth c R RX2 cc nL rt G A Q k n (CH G A ad ar ow cap kd it σ) pc lv (.ref a :: st) := k_openC fun sz ct hr => g_X2_46 hd (cw_at hk) rfl (k_closeC hr kk)
theorem h_X0_36 {a : Nat} (hk : kd a = 1) (hd : decode cc pc = .ok (.getfield 36, 3)) (kk : K p l e s m args below meth c R RX0 cc nL rt G A Q k n (CH G A ad ar ow cap kd it σ) (pc + 3) lv (.int (nI (it a).2.1) :: st)) : K p l e s m args below meth c R RX0 cc nL rt G A Q k n (CH G A ad ar ow cap kd it σ) pc lv (.ref a :: st) := k_openC fun sz ct hr => g_X0_36 hd (cw_at hk) rfl (k_closeC hr kk)
theorem h_X4_58 {a : Nat} (hk : kd a = 1) (hd : decode cc pc = .ok (.getfield 58, 3)) (kk : K p l e s m args below meth c R RX4 cc nL rt G A Q k n (CH G A ad ar ow cap kd it σ) (pc + 3) lv (.int (nI (it a).2.1) :: st)) : K p l e s m args below meth c R RX4 cc nL rt G A Q k n (CH G A ad ar ow cap kd it σ) pc lv (.ref a :: st) := k_openC fun sz ct hr => g_X4_58 hd (cw_at hk) rfl (k_closeC hr kk)
theorem h_X0_39 {a : Nat} (hk : kd a = 1) (hd : decode cc pc = .ok (.getfield 39, 3)) (kk : K p l e s m args below meth c R RX0 cc nL rt G A Q k n (CH G A ad ar ow cap kd it σ) (pc + 3) lv (.int (it a).2.2.1 :: st)) : K p l e s m args below meth c R RX0 cc nL rt G A Q k n (CH G A ad ar ow cap kd it σ) pc lv (.ref a :: st) := k_openC fun sz ct hr => g_X0_39 hd (cw_at hk) rfl (k_closeC hr kk)
theorem h_X4_65 {a : Nat} (hk : kd a = 1) (hd : decode cc pc = .ok (.getfield 65, 3)) (kk : K p l e s m args below meth c R RX4 cc nL rt G A Q k n (CH G A ad ar ow cap kd it σ) (pc + 3) lv (.int (it a).2.2.1 :: st)) : K p l e s m args below meth c R RX4 cc nL rt G A Q k n (CH G A ad ar ow cap kd it σ) pc lv (.ref a :: st) := k_openC fun sz ct hr => g_X4_65 hd (cw_at hk) rfl (k_closeC hr kk)
theorem h_X0_42 {a : Nat} (hk : kd a = 1) (hd : decode cc pc = .ok (.getfield 42, 3)) (kk : K p l e s m args below meth c R RX0 cc nL rt G A Q k n (CH G A ad ar ow cap kd it σ) (pc + 3) lv (.int (it a).2.2.2 :: st)) : K p l e s m args below meth c R RX0 cc nL rt G A Q k n (CH G A ad ar ow cap kd it σ) pc lv (.ref a :: st) := k_openC fun sz ct hr => g_X0_42 hd (cw_at hk) rfl (k_closeC hr kk)
theorem h_X4_71 {a : Nat} (hk : kd a = 1) (hd : decode cc pc = .ok (.getfield 71, 3)) (kk : K p l e s m args below meth c R RX4 cc nL rt G A Q k n (CH G A ad ar ow cap kd it σ) (pc + 3) lv (.int (it a).2.2.2 :: st)) : K p l e s m args below meth c R RX4 cc nL rt G A Q k n (CH G A ad ar ow cap kd it σ) pc lv (.ref a :: st) := k_openC fun sz ct hr => g_X4_71 hd (cw_at hk) rfl (k_closeC hr kk)
theorem h_X4_55 {a : Nat} (hk : kd a = 1) (hd : decode cc pc = .ok (.getfield 55, 3)) (kk : K p l e s m args below meth c R RX4 cc nL rt G A Q k n (CH G A ad ar ow cap kd it σ) (pc + 3) lv (.int (bI (xM σ a)) :: st)) : K p l e s m args below meth c R RX4 cc nL rt G A Q k n (CH G A ad ar ow cap kd it σ) pc lv (.ref a :: st) := k_openC fun sz ct hr => g_X4_55 hd (cw_at hk) rfl (k_closeC hr kk)
theorem hp_X4_55 {a : Nat} {x : Bool} {v : Int32} (hk : kd a = 1) (hv : v = bI x) (hd : decode cc pc = .ok (.putfield 55, 3)) (kk : K p l e s m args below meth c R RX4 cc nL rt G A Q k n (CH G A ad ar ow cap kd it (zM σ (va_up (xM σ) a x))) (pc + 3) lv st) : K p l e s m args below meth c R RX4 cc nL rt G A Q k n (CH G A ad ar ow cap kd it σ) pc lv (.int v :: .ref a :: st) := k_openC fun sz ct hr => by
  subst hv
  refine p_X4_55 hd (cw_at hk) (bI_nar x) (by cases x <;> rfl) (Nat.le_of_ble_eq_true rfl) ?_
  rw [cw_up (σ' := zM σ (va_up (xM σ) a x)) (sz' := sz) (ct' := ct) (by rw [hk]; simp only [cwk, itC, zM_M, zM_I, va_up_self]; rfl) (fun q hq => by unfold cwk; simp only [zM_M, zM_I, zM_C, zM_Q, zM_S, zM_O, zM_H, zM_V, zM_T, zM_F, zM_G, zM_W, va_up_ne _ _ hq])]
  exact k_closeC (hr.same rfl) kk
theorem h_X3_103 {a : Nat} (hk : kd a = 1) (hd : decode cc pc = .ok (.getfield 103, 3)) (kk : K p l e s m args below meth c R RX3 cc nL rt G A Q k n (CH G A ad ar ow cap kd it σ) (pc + 3) lv (.int (bI (xM σ a)) :: st)) : K p l e s m args below meth c R RX3 cc nL rt G A Q k n (CH G A ad ar ow cap kd it σ) pc lv (.ref a :: st) := k_openC fun sz ct hr => g_X3_103 hd (cw_at hk) rfl (k_closeC hr kk)
theorem hp_X3_103 {a : Nat} {x : Bool} {v : Int32} (hk : kd a = 1) (hv : v = bI x) (hd : decode cc pc = .ok (.putfield 103, 3)) (kk : K p l e s m args below meth c R RX3 cc nL rt G A Q k n (CH G A ad ar ow cap kd it (zM σ (va_up (xM σ) a x))) (pc + 3) lv st) : K p l e s m args below meth c R RX3 cc nL rt G A Q k n (CH G A ad ar ow cap kd it σ) pc lv (.int v :: .ref a :: st) := k_openC fun sz ct hr => by
  subst hv
  refine p_X3_103 hd (cw_at hk) (bI_nar x) (by cases x <;> rfl) (Nat.le_of_ble_eq_true rfl) ?_
  rw [cw_up (σ' := zM σ (va_up (xM σ) a x)) (sz' := sz) (ct' := ct) (by rw [hk]; simp only [cwk, itC, zM_M, zM_I, va_up_self]; rfl) (fun q hq => by unfold cwk; simp only [zM_M, zM_I, zM_C, zM_Q, zM_S, zM_O, zM_H, zM_V, zM_T, zM_F, zM_G, zM_W, va_up_ne _ _ hq])]
  exact k_closeC (hr.same rfl) kk
theorem h_X1_105 {a : Nat} (hk : kd a = 1) (hd : decode cc pc = .ok (.getfield 105, 3)) (kk : K p l e s m args below meth c R RX1 cc nL rt G A Q k n (CH G A ad ar ow cap kd it σ) (pc + 3) lv (.int (bI (xM σ a)) :: st)) : K p l e s m args below meth c R RX1 cc nL rt G A Q k n (CH G A ad ar ow cap kd it σ) pc lv (.ref a :: st) := k_openC fun sz ct hr => g_X1_105 hd (cw_at hk) rfl (k_closeC hr kk)
theorem hp_X1_105 {a : Nat} {x : Bool} {v : Int32} (hk : kd a = 1) (hv : v = bI x) (hd : decode cc pc = .ok (.putfield 105, 3)) (kk : K p l e s m args below meth c R RX1 cc nL rt G A Q k n (CH G A ad ar ow cap kd it (zM σ (va_up (xM σ) a x))) (pc + 3) lv st) : K p l e s m args below meth c R RX1 cc nL rt G A Q k n (CH G A ad ar ow cap kd it σ) pc lv (.int v :: .ref a :: st) := k_openC fun sz ct hr => by
  subst hv
  refine p_X1_105 hd (cw_at hk) (bI_nar x) (by cases x <;> rfl) (Nat.le_of_ble_eq_true rfl) ?_
  rw [cw_up (σ' := zM σ (va_up (xM σ) a x)) (sz' := sz) (ct' := ct) (by rw [hk]; simp only [cwk, itC, zM_M, zM_I, va_up_self]; rfl) (fun q hq => by unfold cwk; simp only [zM_M, zM_I, zM_C, zM_Q, zM_S, zM_O, zM_H, zM_V, zM_T, zM_F, zM_G, zM_W, va_up_ne _ _ hq])]
  exact k_closeC (hr.same rfl) kk
theorem h_X1_45 {a : Nat} (hk : kd a = 1) (hd : decode cc pc = .ok (.getfield 45, 3)) (kk : K p l e s m args below meth c R RX1 cc nL rt G A Q k n (CH G A ad ar ow cap kd it σ) (pc + 3) lv (.int (bI (xI σ a)) :: st)) : K p l e s m args below meth c R RX1 cc nL rt G A Q k n (CH G A ad ar ow cap kd it σ) pc lv (.ref a :: st) := k_openC fun sz ct hr => g_X1_45 hd (cw_at hk) rfl (k_closeC hr kk)
theorem hp_X1_45 {a : Nat} {x : Bool} {v : Int32} (hk : kd a = 1) (hv : v = bI x) (hd : decode cc pc = .ok (.putfield 45, 3)) (kk : K p l e s m args below meth c R RX1 cc nL rt G A Q k n (CH G A ad ar ow cap kd it (zI σ (va_up (xI σ) a x))) (pc + 3) lv st) : K p l e s m args below meth c R RX1 cc nL rt G A Q k n (CH G A ad ar ow cap kd it σ) pc lv (.int v :: .ref a :: st) := k_openC fun sz ct hr => by
  subst hv
  refine p_X1_45 hd (cw_at hk) (bI_nar x) (by cases x <;> rfl) (Nat.le_of_ble_eq_true rfl) ?_
  rw [cw_up (σ' := zI σ (va_up (xI σ) a x)) (sz' := sz) (ct' := ct) (by rw [hk]; simp only [cwk, itC, zI_M, zI_I, va_up_self]; rfl) (fun q hq => by unfold cwk; simp only [zI_M, zI_I, zI_C, zI_Q, zI_S, zI_O, zI_H, zI_V, zI_T, zI_F, zI_G, zI_W, va_up_ne _ _ hq])]
  exact k_closeC (hr.same rfl) kk
theorem h_X2_35 {a : Nat} (hk : kd a = 1) (hd : decode cc pc = .ok (.getfield 35, 3)) (kk : K p l e s m args below meth c R RX2 cc nL rt G A Q k n (CH G A ad ar ow cap kd it σ) (pc + 3) lv (.int (bI (xI σ a)) :: st)) : K p l e s m args below meth c R RX2 cc nL rt G A Q k n (CH G A ad ar ow cap kd it σ) pc lv (.ref a :: st) := k_openC fun sz ct hr => g_X2_35 hd (cw_at hk) rfl (k_closeC hr kk)
theorem hp_X2_35 {a : Nat} {x : Bool} {v : Int32} (hk : kd a = 1) (hv : v = bI x) (hd : decode cc pc = .ok (.putfield 35, 3)) (kk : K p l e s m args below meth c R RX2 cc nL rt G A Q k n (CH G A ad ar ow cap kd it (zI σ (va_up (xI σ) a x))) (pc + 3) lv st) : K p l e s m args below meth c R RX2 cc nL rt G A Q k n (CH G A ad ar ow cap kd it σ) pc lv (.int v :: .ref a :: st) := k_openC fun sz ct hr => by
  subst hv
  refine p_X2_35 hd (cw_at hk) (bI_nar x) (by cases x <;> rfl) (Nat.le_of_ble_eq_true rfl) ?_
  rw [cw_up (σ' := zI σ (va_up (xI σ) a x)) (sz' := sz) (ct' := ct) (by rw [hk]; simp only [cwk, itC, zI_M, zI_I, va_up_self]; rfl) (fun q hq => by unfold cwk; simp only [zI_M, zI_I, zI_C, zI_Q, zI_S, zI_O, zI_H, zI_V, zI_T, zI_F, zI_G, zI_W, va_up_ne _ _ hq])]
  exact k_closeC (hr.same rfl) kk
theorem ta_ld {j : Nat} {i : Int32} (hst : CSt ad ar ow cap kd) (hd : decode cc pc = .ok (.iaload, 1)) (hi : i = nI j) (hj : j < 12) (kk : K p l e s m args below meth c R own cc nL rt G A Q k n (CH G A ad ar ow cap kd it σ) (pc + 1) lv (.int (xT σ j) :: st)) : K p l e s m args below meth c R own cc nL rt G A Q k n (CH G A ad ar ow cap kd it σ) pc lv (.int i :: .ref (ad 3) :: st) := k_openC fun sz ct hr => k_iald hd (cw_at (kd_ad hst (by decide))) hi hj (by decide) (k_closeC hr kk)
theorem ta_st {j : Nat} {i : Int32} {x : Int32} {v : Value} (hst : CSt ad ar ow cap kd) (hv : v = .int x) (hd : decode cc pc = .ok (.iastore, 1)) (hi : i = nI j) (hj : j < 12) (kk : K p l e s m args below meth c R own cc nL rt G A Q k n (CH G A ad ar ow cap kd it (zT σ (va_up (xT σ) j x))) (pc + 1) lv st) : K p l e s m args below meth c R own cc nL rt G A Q k n (CH G A ad ar ow cap kd it σ) pc lv (v :: .int i :: .ref (ad 3) :: st) := k_openC fun sz ct hr => by
  subst hv
  refine k_iast hd (cw_at (kd_ad hst (by decide))) hi hj (by decide) ?_
  rw [cw_up (σ' := zT σ (va_up (xT σ) j x)) (sz' := sz) (ct' := ct) (by
    rw [kd_ad hst (by decide)]
    first | rfl | (refine congrArg (fun f : Nat → Value => (some (Sum.inl (0, 12, f)) : Option Ce)) (funext fun z => ?_); simp only [zT_T, va_up]; split <;> rfl)) (fun q hq => by
    have hne : kd q ≠ 7 := fun z => hq ((hst.1 3 (by decide) q).mp z)
    unfold cwk
    split <;> first | rfl | exact absurd (by assumption) hne)]
  exact k_closeC (hr.same rfl) kk
theorem wr_ld {j : Nat} {i : Int32} (hst : CSt ad ar ow cap kd) (hd : decode cc pc = .ok (.iaload, 1)) (hi : i = nI j) (hj : j < 8) (kk : K p l e s m args below meth c R own cc nL rt G A Q k n (CH G A ad ar ow cap kd it σ) (pc + 1) lv (.int (nI (xW σ j)) :: st)) : K p l e s m args below meth c R own cc nL rt G A Q k n (CH G A ad ar ow cap kd it σ) pc lv (.int i :: .ref (ad 7) :: st) := k_openC fun sz ct hr => k_iald hd (cw_at (kd_ad hst (by decide))) hi hj (by decide) (k_closeC hr kk)
theorem wr_st {j : Nat} {i : Int32} {x : Nat} {v : Value} (hst : CSt ad ar ow cap kd) (hv : v = .int (nI x)) (hd : decode cc pc = .ok (.iastore, 1)) (hi : i = nI j) (hj : j < 8) (kk : K p l e s m args below meth c R own cc nL rt G A Q k n (CH G A ad ar ow cap kd it (zW σ (va_up (xW σ) j x))) (pc + 1) lv st) : K p l e s m args below meth c R own cc nL rt G A Q k n (CH G A ad ar ow cap kd it σ) pc lv (v :: .int i :: .ref (ad 7) :: st) := k_openC fun sz ct hr => by
  subst hv
  refine k_iast hd (cw_at (kd_ad hst (by decide))) hi hj (by decide) ?_
  rw [cw_up (σ' := zW σ (va_up (xW σ) j x)) (sz' := sz) (ct' := ct) (by
    rw [kd_ad hst (by decide)]
    first | rfl | (refine congrArg (fun f : Nat → Value => (some (Sum.inl (0, 8, f)) : Option Ce)) (funext fun z => ?_); simp only [zW_W, va_up]; split <;> rfl)) (fun q hq => by
    have hne : kd q ≠ 11 := fun z => hq ((hst.1 7 (by decide) q).mp z)
    unfold cwk
    split <;> first | rfl | exact absurd (by assumption) hne)]
  exact k_closeC (hr.same rfl) kk
theorem fl_ld {j : Nat} {i : Int32} (hst : CSt ad ar ow cap kd) (hd : decode cc pc = .ok (.laload, 1)) (hi : i = nI j) (hj : j < 64) (kk : K p l e s m args below meth c R own cc nL rt G A Q k n (CH G A ad ar ow cap kd it σ) (pc + 1) lv (.long (xF σ j) :: st)) : K p l e s m args below meth c R own cc nL rt G A Q k n (CH G A ad ar ow cap kd it σ) pc lv (.int i :: .ref (ad 5) :: st) := k_openC fun sz ct hr => k_lald hd (cw_at (kd_ad hst (by decide))) hi hj (by decide) (k_closeC hr kk)
theorem fl_st {j : Nat} {i : Int32} {x : Int64} {v : Value} (hst : CSt ad ar ow cap kd) (hv : v = .long x) (hd : decode cc pc = .ok (.lastore, 1)) (hi : i = nI j) (hj : j < 64) (kk : K p l e s m args below meth c R own cc nL rt G A Q k n (CH G A ad ar ow cap kd it (zF σ (va_up (xF σ) j x))) (pc + 1) lv st) : K p l e s m args below meth c R own cc nL rt G A Q k n (CH G A ad ar ow cap kd it σ) pc lv (v :: .int i :: .ref (ad 5) :: st) := k_openC fun sz ct hr => by
  subst hv
  refine k_last hd (cw_at (kd_ad hst (by decide))) hi hj (by decide) ?_
  rw [cw_up (σ' := zF σ (va_up (xF σ) j x)) (sz' := sz) (ct' := ct) (by
    rw [kd_ad hst (by decide)]
    first | rfl | (refine congrArg (fun f : Nat → Value => (some (Sum.inl (1, 64, f)) : Option Ce)) (funext fun z => ?_); simp only [zF_F, va_up]; split <;> rfl)) (fun q hq => by
    have hne : kd q ≠ 9 := fun z => hq ((hst.1 5 (by decide) q).mp z)
    unfold cwk
    split <;> first | rfl | exact absurd (by assumption) hne)]
  exact k_closeC (hr.same rfl) kk
theorem pg_ld {j : Nat} {i : Int32} (hst : CSt ad ar ow cap kd) (hd : decode cc pc = .ok (.aaload, 1)) (hi : i = nI j) (hj : j < 64) (kk : K p l e s m args below meth c R own cc nL rt G A Q k n (CH G A ad ar ow cap kd it σ) (pc + 1) lv (.ref (ad (11 + j)) :: st)) : K p l e s m args below meth c R own cc nL rt G A Q k n (CH G A ad ar ow cap kd it σ) pc lv (.int i :: .ref (ad 4) :: st) := k_openC fun sz ct hr => k_aald rfl hd (cw_at (kd_ad hst (by decide))) hi hj (by decide) rfl (k_closeC hr kk)
theorem rg_ld {j : Nat} {i : Int32} (hst : CSt ad ar ow cap kd) (hd : decode cc pc = .ok (.aaload, 1)) (hi : i = nI j) (hj : j < 32) (kk : K p l e s m args below meth c R own cc nL rt G A Q k n (CH G A ad ar ow cap kd it σ) (pc + 1) lv (.ref (xG σ j) :: st)) : K p l e s m args below meth c R own cc nL rt G A Q k n (CH G A ad ar ow cap kd it σ) pc lv (.int i :: .ref (ad 6) :: st) := k_openC fun sz ct hr => k_aald rfl hd (cw_at (kd_ad hst (by decide))) hi hj (by decide) rfl (k_closeC hr kk)
theorem rg_st {j : Nat} {i : Int32} {x : Nat} {v : Value} (hst : CSt ad ar ow cap kd) (hx : kd x = 2) (hv : v = .ref x) (hd : decode cc pc = .ok (.aastore, 1)) (hi : i = nI j) (hj : j < 32) (kk : K p l e s m args below meth c R own cc nL rt G A Q k n (CH G A ad ar ow cap kd it (zG σ (va_up (xG σ) j x))) (pc + 1) lv st) : K p l e s m args below meth c R own cc nL rt G A Q k n (CH G A ad ar ow cap kd it σ) pc lv (v :: .int i :: .ref (ad 6) :: st) := k_openC fun sz ct hr => by
  subst hv
  refine k_aast (ci := 2) rfl rfl hd (cw_at (kd_ad hst (by decide))) (cw_at hx) hi hj (by decide) ?_
  rw [cw_up (σ' := zG σ (va_up (xG σ) j x)) (sz' := sz) (ct' := ct) (by
    rw [kd_ad hst (by decide)]
    first | rfl | (refine congrArg (fun f : Nat → Value => (some (Sum.inl (4, 32, f)) : Option Ce)) (funext fun z => ?_); simp only [zG_G, va_up]; split <;> rfl)) (fun q hq => by
    have hne : kd q ≠ 10 := fun z => hq ((hst.1 6 (by decide) q).mp z)
    unfold cwk
    split <;> first | rfl | exact absurd (by assumption) hne)]
  exact k_closeC (hr.same rfl) kk
theorem rw_ld (hst : CSt ad ar ow cap kd) {r j b : Nat} {i : Int32} (hk : kd r = 2) (hb : (xR σ r)[j]? = some (some b)) (hd : decode cc pc = .ok (.aaload, 1)) (hi : i = nI j) (kk : K p l e s m args below meth c R own cc nL rt G A Q k n (CH G A ad ar ow cap kd it σ) (pc + 1) lv (.ref b :: st)) : K p l e s m args below meth c R own cc nL rt G A Q k n (CH G A ad ar ow cap kd it σ) pc lv (.int i :: .ref (ar r) :: st) := k_openC fun sz ct hr => by
  obtain ⟨h1, h2, h3⟩ := hst.2.2.1 r hk
  have hj := (List.getElem?_eq_some_iff.mp hb).1
  have := (hr r hk).2.1
  exact k_aald rfl hd ((cw_at h1).trans (by simp only [cwk, h2]; rfl)) hi (by omega) (by omega) ((hr r hk).2.2 j _ hb) (k_closeC hr kk)
theorem rw_ldN (hst : CSt ad ar ow cap kd) {r j : Nat} {i : Int32} (hk : kd r = 2) (hb : (xR σ r)[j]? = some none) (hd : decode cc pc = .ok (.aaload, 1)) (hi : i = nI j) (kk : K p l e s m args below meth c R own cc nL rt G A Q k n (CH G A ad ar ow cap kd it σ) (pc + 1) lv (.null :: st)) : K p l e s m args below meth c R own cc nL rt G A Q k n (CH G A ad ar ow cap kd it σ) pc lv (.int i :: .ref (ar r) :: st) := k_openC fun sz ct hr => by
  obtain ⟨h1, h2, h3⟩ := hst.2.2.1 r hk
  have hj := (List.getElem?_eq_some_iff.mp hb).1
  have := (hr r hk).2.1
  exact k_aaldN rfl hd ((cw_at h1).trans (by simp only [cwk, h2]; rfl)) hi (by omega) (by omega) ((hr r hk).2.2 j _ hb) (k_closeC hr kk)
end CROWS
