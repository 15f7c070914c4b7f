def lw_tbs : List (List Cond) := [k2_sels lw_privs, tables_1_1, tables_1_2, tables_1_3, tables_1_4, tables_1_5, tables_1_6, tables_1_7, tables_1_8]
theorem lw_tbs_in : ∀ w ∈ lw_tbs.flatten, w ∈ lw_tbl := by
  intro w h
  simp only [lw_tbs, List.flatten_cons, List.flatten_nil, List.append_nil] at h
  exact h
/-! ===== the classes, the cells of the two objects by number, the methods ===== -/
def cn_0 : String := "SleptFor$Clock"
def cf_0 : u_T := fun k => match k with
  | 0 => ("SleptFor$Clock", "folk", "LSleptFor$Folk;", true)
  | 1 => ("SleptFor$Clock", "laws", "LSleptFor$Laws;", true)
  | 2 => ("SleptFor$Clock", "sound", "[I", true)
  | 3 => ("SleptFor$Clock", "loud", "[I", true)
  | 4 => ("SleptFor$Clock", "ran", "I", false)
  | 5 => ("SleptFor$Clock", "stopped", "I", false)
  | _ => ("SleptFor$Clock", "slept", "I", false)
def cn_1 : String := "SleptFor$Folk"
def cf_1 : u_T := fun k => match k with
  | 0 => ("SleptFor$Folk", "people", "I", false)
  | 1 => ("SleptFor$Folk", "works", "I", false)
  | 2 => ("SleptFor$Folk", "depth", "[I", true)
  | 3 => ("SleptFor$Folk", "voice", "[I", true)
  | 4 => ("SleptFor$Folk", "may", "[I", true)
  | 5 => ("SleptFor$Folk", "hears", "[I", true)
  | 6 => ("SleptFor$Folk", "needs", "[I", true)
  | _ => ("SleptFor$Folk", "noise", "[I", true)
def cn_2 : String := "SleptFor$Laws"
def cf_2 : u_T := fun k => match k with
  | 0 => ("SleptFor$Laws", "valley", "LSleptFor$Valley;", true)
  | 1 => ("SleptFor$Laws", "texts", "[LSleptFor$Text;", true)
  | 2 => ("SleptFor$Laws", "names", "[I", true)
  | _ => ("SleptFor$Laws", "stack", "[I", true)
def cn_3 : String := "SleptFor$Night"
def cf_3 : u_T := fun k => match k with
  | 0 => ("SleptFor$Night", "doing", "[I", true)
  | 1 => ("SleptFor$Night", "with", "[I", true)
  | 2 => ("SleptFor$Night", "on", "[I", true)
  | 3 => ("SleptFor$Night", "dream", "[I", true)
  | 4 => ("SleptFor$Night", "owes", "[I", true)
  | 5 => ("SleptFor$Night", "done", "[I", true)
  | 6 => ("SleptFor$Night", "hour", "I", false)
  | _ => ("SleptFor$Night", "x", "I", false)
def cn_4 : String := "SleptFor$Pairing"
def cf_4 : u_T := fun k => match k with
  | 0 => ("SleptFor$Pairing", "valley", "LSleptFor$Valley;", true)
  | 1 => ("SleptFor$Pairing", "laws", "LSleptFor$Laws;", true)
  | 2 => ("SleptFor$Pairing", "waker", "[I", true)
  | 3 => ("SleptFor$Pairing", "sleeper", "[I", true)
  | 4 => ("SleptFor$Pairing", "wakers", "I", false)
  | 5 => ("SleptFor$Pairing", "sleepers", "I", false)
  | 6 => ("SleptFor$Pairing", "burn", "[I", true)
  | 7 => ("SleptFor$Pairing", "worth", "[I", true)
  | 8 => ("SleptFor$Pairing", "price", "[I", true)
  | 9 => ("SleptFor$Pairing", "rest", "[I", true)
  | 10 => ("SleptFor$Pairing", "leastPrice", "I", false)
  | 11 => ("SleptFor$Pairing", "fuel", "[I", true)
  | 12 => ("SleptFor$Pairing", "choice", "[I", true)
  | 13 => ("SleptFor$Pairing", "best", "[I", true)
  | 14 => ("SleptFor$Pairing", "bestCount", "I", false)
  | _ => ("SleptFor$Pairing", "bestCost", "I", false)
def cn_5 : String := "SleptFor$Questions"
def cf_5 : u_T := fun k => match k with
  | 0 => ("SleptFor$Questions", "valley", "LSleptFor$Valley;", true)
  | 1 => ("SleptFor$Questions", "laws", "LSleptFor$Laws;", true)
  | 2 => ("SleptFor$Questions", "clock", "LSleptFor$Clock;", true)
  | 3 => ("SleptFor$Questions", "debts", "[I", true)
  | 4 => ("SleptFor$Questions", "distance", "[I", true)
  | _ => ("SleptFor$Questions", "worth", "[I", true)
def cn_6 : String := "SleptFor$Reader"
def cf_6 : u_T := fun k => match k with
  | 0 => ("SleptFor$Reader", "tape", "[I", true)
  | 1 => ("SleptFor$Reader", "length", "I", false)
  | 2 => ("SleptFor$Reader", "next", "I", false)
  | 3 => ("SleptFor$Reader", "kinds", "[I", true)
  | 4 => ("SleptFor$Reader", "starts", "[I", true)
  | 5 => ("SleptFor$Reader", "numbers", "[I", true)
  | 6 => ("SleptFor$Reader", "tokens", "I", false)
  | 7 => ("SleptFor$Reader", "at", "I", false)
  | 8 => ("SleptFor$Reader", "kind", "I", false)
  | 9 => ("SleptFor$Reader", "law", "I", false)
  | 10 => ("SleptFor$Reader", "draft", "LSleptFor$Text;", true)
  | 11 => ("SleptFor$Reader", "fault", "I", false)
  | _ => ("SleptFor$Reader", "place", "I", false)
def cn_7 : String := "SleptFor$Rota"
def cf_7 : u_T := fun k => match k with
  | 0 => ("SleptFor$Rota", "hours", "I", false)
  | 1 => ("SleptFor$Rota", "people", "I", false)
  | 2 => ("SleptFor$Rota", "onEnd", "I", false)
  | 3 => ("SleptFor$Rota", "relief", "I", false)
  | 4 => ("SleptFor$Rota", "lastSlept", "[I", true)
  | 5 => ("SleptFor$Rota", "plan", "[I", true)
  | 6 => ("SleptFor$Rota", "best", "[I", true)
  | _ => ("SleptFor$Rota", "bestChanges", "I", false)
def cn_8 : String := "SleptFor$Steps"
def cf_8 : u_T := fun k => match k with
  | 0 => ("SleptFor$Steps", "rows", "[I", true)
  | 1 => ("SleptFor$Steps", "oldest", "I", false)
  | _ => ("SleptFor$Steps", "count", "I", false)
def cn_9 : String := "SleptFor$Text"
def cf_9 : u_T := fun k => match k with
  | 0 => ("SleptFor$Text", "kind", "[I", true)
  | 1 => ("SleptFor$Text", "first", "[I", true)
  | 2 => ("SleptFor$Text", "second", "[I", true)
  | 3 => ("SleptFor$Text", "third", "[I", true)
  | 4 => ("SleptFor$Text", "clauses", "I", false)
  | 5 => ("SleptFor$Text", "lawAt", "[I", true)
  | 6 => ("SleptFor$Text", "code", "[I", true)
  | _ => ("SleptFor$Text", "size", "I", false)
def cn_10 : String := "SleptFor$Valley"
def cf_10 : u_T := fun k => match k with
  | 0 => ("SleptFor$Valley", "folk", "LSleptFor$Folk;", true)
  | 1 => ("SleptFor$Valley", "night", "LSleptFor$Night;", true)
  | 2 => ("SleptFor$Valley", "steps", "LSleptFor$Steps;", true)
  | 3 => ("SleptFor$Valley", "log", "[I", true)
  | 4 => ("SleptFor$Valley", "texts", "I", false)
  | _ => ("SleptFor$Valley", "ruling", "I", false)
def cn_11 : String := "SleptFor"
def cf_11 : u_T := fun k => match k with
  | 0 => ("SleptFor", "valley", "LSleptFor$Valley;", true)
  | 1 => ("SleptFor", "imaged", "LSleptFor$Valley;", true)
  | 2 => ("SleptFor", "texts", "[LSleptFor$Text;", true)
  | 3 => ("SleptFor", "tape", "[I", true)
  | 4 => ("SleptFor", "taped", "I", false)
  | 5 => ("SleptFor", "reader", "LSleptFor$Reader;", true)
  | 6 => ("SleptFor", "laws", "LSleptFor$Laws;", true)
  | 7 => ("SleptFor", "clock", "LSleptFor$Clock;", true)
  | 8 => ("SleptFor", "foretold", "LSleptFor$Night;", true)
  | 9 => ("SleptFor", "pairing", "LSleptFor$Pairing;", true)
  | 10 => ("SleptFor", "relief", "LSleptFor$Rota;", true)
  | _ => ("SleptFor", "questions", "LSleptFor$Questions;", true)
def cn_12 : String := "SleptForModel"
def cf_12 : u_T := fun k => match k with
  | 0 => ("SleptForModel", "a", "[I", true)
  | 1 => ("SleptForModel", "image", "[I", true)
  | 2 => ("SleptForModel", "tape", "[B", true)
  | 3 => ("SleptForModel", "taped", "I", false)
  | 4 => ("SleptForModel", "fault", "I", false)
  | 5 => ("SleptForModel", "faultAt", "I", false)
  | 6 => ("SleptForModel", "clauses", "[I", true)
  | 7 => ("SleptForModel", "clauseWord", "[I", true)
  | 8 => ("SleptForModel", "clauseAt", "[I", true)
  | 9 => ("SleptForModel", "clauseOne", "[I", true)
  | 10 => ("SleptForModel", "clauseTwo", "[I", true)
  | 11 => ("SleptForModel", "clauseThree", "[I", true)
  | 12 => ("SleptForModel", "order", "[I", true)
  | 13 => ("SleptForModel", "value", "[I", true)
  | 14 => ("SleptForModel", "textLength", "I", false)
  | 15 => ("SleptForModel", "at", "I", false)
  | 16 => ("SleptForModel", "token", "I", false)
  | 17 => ("SleptForModel", "sort", "I", false)
  | 18 => ("SleptForModel", "tokenIs", "I", false)
  | 19 => ("SleptForModel", "wrong", "I", false)
  | 20 => ("SleptForModel", "wrongAt", "I", false)
  | 21 => ("SleptForModel", "open", "I", false)
  | 22 => ("SleptForModel", "frames", "I", false)
  | 23 => ("SleptForModel", "frame", "[I", true)
  | 24 => ("SleptForModel", "compare", "[I", true)
  | 25 => ("SleptForModel", "waits", "I", false)
  | 26 => ("SleptForModel", "wait", "[I", true)
  | 27 => ("SleptForModel", "waitFrame", "[I", true)
  | 28 => ("SleptForModel", "state", "I", false)
  | 29 => ("SleptForModel", "openAt", "[I", true)
  | 30 => ("SleptForModel", "newClauses", "I", false)
  | 31 => ("SleptForModel", "newKind", "I", false)
  | 32 => ("SleptForModel", "newWord", "[I", true)
  | 33 => ("SleptForModel", "newAt", "[I", true)
  | 34 => ("SleptForModel", "newOne", "[I", true)
  | 35 => ("SleptForModel", "newTwo", "[I", true)
  | 36 => ("SleptForModel", "newThree", "[I", true)
  | 37 => ("SleptForModel", "newOrders", "I", false)
  | 38 => ("SleptForModel", "newOrder", "[I", true)
  | 39 => ("SleptForModel", "newValue", "[I", true)
  | 40 => ("SleptForModel", "name", "[I", true)
  | 41 => ("SleptForModel", "pile", "[J", true)
  | 42 => ("SleptForModel", "hourNow", "I", false)
  | 43 => ("SleptForModel", "xNow", "I", false)
  | 44 => ("SleptForModel", "does", "[I", true)
  | 45 => ("SleptForModel", "whomNow", "[I", true)
  | 46 => ("SleptForModel", "onNow", "[I", true)
  | 47 => ("SleptForModel", "dreamNow", "[I", true)
  | 48 => ("SleptForModel", "doneNow", "[I", true)
  | 49 => ("SleptForModel", "owesNow", "[I", true)
  | 50 => ("SleptForModel", "ran", "I", false)
  | 51 => ("SleptForModel", "stopped", "I", false)
  | 52 => ("SleptForModel", "slept", "I", false)
  | 53 => ("SleptForModel", "waker", "[I", true)
  | 54 => ("SleptForModel", "sleeper", "[I", true)
  | 55 => ("SleptForModel", "worthFor", "[I", true)
  | 56 => ("SleptForModel", "priceFor", "[I", true)
  | 57 => ("SleptForModel", "burns", "[I", true)
  | 58 => ("SleptForModel", "wakers", "I", false)
  | 59 => ("SleptForModel", "sleepers", "I", false)
  | 60 => ("SleptForModel", "sleepsFor", "[I", true)
  | 61 => ("SleptForModel", "bestFor", "[I", true)
  | 62 => ("SleptForModel", "tier", "[I", true)
  | 63 => ("SleptForModel", "relief", "[I", true)
  | 64 => ("SleptForModel", "shift", "[I", true)
  | _ => ("SleptForModel", "round", "[I", true)
abbrev cl0 : List vw_C := [(cn_0, cf_0, 7), (cn_1, cf_1, 8), (cn_2, cf_2, 4), (cn_3, cf_3, 8), (cn_4, cf_4, 16), (cn_5, cf_5, 6), (cn_6, cf_6, 13), (cn_7, cf_7, 8), (cn_8, cf_8, 3), (cn_9, cf_9, 8), (cn_10, cf_10, 6), (cn_11, cf_11, 12), (cn_12, cf_12, 66)]
def lyL : List (Nat × Nat × List (Option Nat)) := [
  (4, 11, [some 1, some 19, some 37, some 38, none, some 39, some 50, some 53, some 56, some 63, some 73, some 77]),
  (4, 10, [some 2, some 9, some 16, some 18, none, none]),
  (4, 1, [none, none, some 3, some 4, some 5, some 6, some 7, some 8]),
  (0, 8, []),
  (0, 8, []),
  (0, 8, []),
  (0, 8, []),
  (0, 6, []),
  (0, 6, []),
  (4, 3, [some 10, some 11, some 12, some 13, some 14, some 15, none, none]),
  (0, 8, []),
  (0, 8, []),
  (0, 8, []),
  (0, 8, []),
  (0, 64, []),
  (0, 6, []),
  (4, 8, [some 17, none, none]),
  (0, 3120, []),
  (0, 999, []),
  (4, 10, [some 20, some 27, some 34, some 36, none, none]),
  (4, 1, [none, none, some 21, some 22, some 23, some 24, some 25, some 26]),
  (0, 8, []),
  (0, 8, []),
  (0, 8, []),
  (0, 8, []),
  (0, 6, []),
  (0, 6, []),
  (4, 3, [some 28, some 29, some 30, some 31, some 32, some 33, none, none]),
  (0, 8, []),
  (0, 8, []),
  (0, 8, []),
  (0, 8, []),
  (0, 64, []),
  (0, 6, []),
  (4, 8, [some 35, none, none]),
  (0, 3120, []),
  (0, 999, []),
  (3, 4, [some 81, some 88, some 95, some 102]),
  (0, 300, []),
  (4, 6, [some 38, none, none, some 40, some 41, some 42, none, none, none, none, some 43, none, none]),
  (0, 301, []),
  (0, 301, []),
  (0, 301, []),
  (4, 9, [some 44, some 45, some 46, some 47, none, some 48, some 49, none]),
  (0, 24, []),
  (0, 24, []),
  (0, 24, []),
  (0, 24, []),
  (0, 4, []),
  (0, 300, []),
  (4, 2, [some 1, some 37, some 51, some 52]),
  (0, 9, []),
  (0, 64, []),
  (4, 0, [some 2, some 50, some 54, some 55, none, none, none]),
  (0, 8, []),
  (0, 8, []),
  (4, 3, [some 57, some 58, some 59, some 60, some 61, some 62, none, none]),
  (0, 8, []),
  (0, 8, []),
  (0, 8, []),
  (0, 8, []),
  (0, 64, []),
  (0, 6, []),
  (4, 4, [some 1, some 50, some 64, some 65, none, none, some 66, some 67, some 68, some 69, none, some 70, some 71, some 72, none, none]),
  (0, 4, []),
  (0, 6, []),
  (0, 4, []),
  (0, 24, []),
  (0, 24, []),
  (0, 28, []),
  (0, 4, []),
  (0, 6, []),
  (0, 6, []),
  (4, 7, [none, none, none, none, some 74, some 75, some 76, none]),
  (0, 8, []),
  (0, 8, []),
  (0, 8, []),
  (4, 5, [some 1, some 50, some 53, some 78, some 79, some 80]),
  (0, 8, []),
  (0, 8, []),
  (0, 8, []),
  (4, 9, [some 82, some 83, some 84, some 85, none, some 86, some 87, none]),
  (0, 24, []),
  (0, 24, []),
  (0, 24, []),
  (0, 24, []),
  (0, 4, []),
  (0, 300, []),
  (4, 9, [some 89, some 90, some 91, some 92, none, some 93, some 94, none]),
  (0, 24, []),
  (0, 24, []),
  (0, 24, []),
  (0, 24, []),
  (0, 4, []),
  (0, 300, []),
  (4, 9, [some 96, some 97, some 98, some 99, none, some 100, some 101, none]),
  (0, 24, []),
  (0, 24, []),
  (0, 24, []),
  (0, 24, []),
  (0, 4, []),
  (0, 300, []),
  (4, 9, [some 103, some 104, some 105, some 106, none, some 107, some 108, none]),
  (0, 24, []),
  (0, 24, []),
  (0, 24, []),
  (0, 24, []),
  (0, 4, []),
  (0, 300, []),
  (4, 12, [some 110, some 111, some 112, none, none, none, some 113, some 114, some 115, some 116, some 117, some 118, some 119, some 120, none, none, none, none, none, none, none, none, none, some 121, some 122, none, some 123, some 124, none, some 125, none, none, some 126, some 127, some 128, some 129, some 130, none, some 131, some 132, some 133, some 134, none, none, some 135, some 136, some 137, some 138, some 139, some 140, none, none, none, some 141, some 142, some 143, some 144, some 145, none, none, some 146, some 147, some 148, some 149, some 150, some 151]),
  (0, 8880, []),
  (0, 8880, []),
  (1, 300, []),
  (0, 4, []),
  (0, 96, []),
  (0, 96, []),
  (0, 96, []),
  (0, 96, []),
  (0, 96, []),
  (0, 1600, []),
  (0, 1600, []),
  (0, 40, []),
  (0, 41, []),
  (0, 80, []),
  (0, 80, []),
  (0, 41, []),
  (0, 24, []),
  (0, 24, []),
  (0, 24, []),
  (0, 24, []),
  (0, 24, []),
  (0, 400, []),
  (0, 400, []),
  (0, 11, []),
  (2, 200, []),
  (0, 8, []),
  (0, 8, []),
  (0, 8, []),
  (0, 8, []),
  (0, 6, []),
  (0, 64, []),
  (0, 8, []),
  (0, 8, []),
  (0, 64, []),
  (0, 64, []),
  (0, 8, []),
  (0, 8, []),
  (0, 8, []),
  (0, 8, []),
  (0, 8, []),
  (0, 8, []),
  (0, 8, [])]
noncomputable def lay0 : gx_Y := fun k => match gx_nth lyL k with | some x => x | none => (9, 0, [])
def NC0 : Nat := 152
theorem lay0_lt : ∀ k, (lay0 k).1 ≤ 4 → k < NC0 := by
  intro k h
  rcases Nat.lt_or_ge k NC0 with q | q
  · exact q
  · have e : gx_nth lyL k = none := by
      rw [gx_nth_eq]
      exact List.getElem?_eq_none (by show 152 ≤ k; exact q)
    rw [lay0, e] at h
    exact absurd h (by decide)
