/-! the words that hold at every state of a walk; the classes; what else the claim gives -/
def xv_T : List Cond := lw_tbl.filter goodWord
theorem xv_in {w : Cond} (h : w ∈ lw_tbl) (hg : goodWord w = true) : w ∈ xv_T := List.mem_filter.mpr ⟨h, hg⟩
theorem xv_good : ∀ w ∈ xv_T, (w.onTables && w.keeps) = true ∨ ∃ ty, w = .arrayClass ty := fun w h => good_of_word (List.mem_filter.mp h).2
def tx_0 : u_T := fun k => match k with
  | 0 => ("NotedVolume", "files", "LNotedVolume$FileTable;", true)
  | 1 => ("NotedVolume", "ring", "LNotedVolume$Ring;", true)
  | 2 => ("NotedVolume", "gatherings", "LNotedVolume$Gatherings;", true)
  | 3 => ("NotedVolume", "subscribers", "[LNotedVolume$Subscriber;", true)
  | 4 => ("NotedVolume", "nextNumber", "I", false)
  | 5 => ("NotedVolume", "powered", "Z", false)
  | _ => ("NotedVolume", "writesLeft", "I", false)
def ty_0 : Nat → FieldType := fun k => match k with
  | 0 => .object "NotedVolume$FileTable"
  | 1 => .object "NotedVolume$Ring"
  | 2 => .object "NotedVolume$Gatherings"
  | 3 => .array (.object "NotedVolume$Subscriber")
  | 4 => .int
  | 5 => .boolean
  | _ => .int
def tx_1 : u_T := fun k => match k with
  | 0 => ("NotedVolume$Entry", "number", "I", true)
  | 1 => ("NotedVolume$Entry", "sort", "I", true)
  | 2 => ("NotedVolume$Entry", "parent", "I", true)
  | 3 => ("NotedVolume$Entry", "name", "I", true)
  | _ => ("NotedVolume$Entry", "mark", "I", true)
def ty_1 : Nat → FieldType := fun k => match k with
  | 0 => .int
  | 1 => .int
  | 2 => .int
  | 3 => .int
  | _ => .int
def tx_2 : u_T := fun k => match k with
  | 0 => ("NotedVolume$FileTable", "rows", "Ljava/util/ArrayList;", true)
  | _ => ("NotedVolume$FileTable", "most", "I", true)
def ty_2 : Nat → FieldType := fun k => match k with
  | 0 => .object "java/util/ArrayList"
  | _ => .int
def tx_3 : u_T := fun k => match k with
  | 0 => ("NotedVolume$Note", "entry", "LNotedVolume$Entry;", true)
  | _ => ("NotedVolume$Note", "reasons", "I", true)
def ty_3 : Nat → FieldType := fun k => match k with
  | 0 => .object "NotedVolume$Entry"
  | _ => .int
def tx_4 : u_T := fun k => match k with
  | 0 => ("NotedVolume$Ring", "cells", "[LNotedVolume$Note;", true)
  | _ => ("NotedVolume$Ring", "next", "I", false)
def ty_4 : Nat → FieldType := fun k => match k with
  | 0 => .array (.object "NotedVolume$Note")
  | _ => .int
def tx_5 : u_T := fun k => match k with
  | 0 => ("NotedVolume$Gathering", "file", "I", true)
  | _ => ("NotedVolume$Gathering", "reasons", "I", false)
def ty_5 : Nat → FieldType := fun k => match k with
  | 0 => .int
  | _ => .int
def tx_6 : u_T := fun k => match k with
  | _ => ("NotedVolume$Gatherings", "open", "Ljava/util/ArrayList;", true)
def ty_6 : Nat → FieldType := fun k => match k with
  | _ => .object "java/util/ArrayList"
def tx_7 : u_T := fun k => match k with
  | 0 => ("NotedVolume$Subscriber", "copy", "LNotedVolume$FileTable;", true)
  | 1 => ("NotedVolume$Subscriber", "pageNumbers", "[I", true)
  | 2 => ("NotedVolume$Subscriber", "cursor", "I", false)
  | 3 => ("NotedVolume$Subscriber", "mask", "I", false)
  | 4 => ("NotedVolume$Subscriber", "listing", "Z", false)
  | _ => ("NotedVolume$Subscriber", "greatestShown", "I", false)
def ty_7 : Nat → FieldType := fun k => match k with
  | 0 => .object "NotedVolume$FileTable"
  | 1 => .array .int
  | 2 => .int
  | 3 => .int
  | 4 => .boolean
  | _ => .int
def tx_8 : u_T := fun k => match k with
  | 0 => ("java/util/AbstractList", "modCount", "I", false)
  | 1 => ("java/util/ArrayList", "elementData", "[Ljava/lang/Object;", false)
  | _ => ("java/util/ArrayList", "size", "I", false)
def ty_8 : Nat → FieldType := fun k => match k with
  | 0 => .int
  | 1 => .array (.object "java/lang/Object")
  | _ => .int
def tx_9 : u_T := fun k => match k with
  | 0 => ("NotedVolumeModel", "thrown", "I", false)
  | 1 => ("NotedVolumeModel", "count", "I", false)
  | 2 => ("NotedVolumeModel", "files", "[I", true)
  | 3 => ("NotedVolumeModel", "sorts", "[I", true)
  | 4 => ("NotedVolumeModel", "parents", "[I", true)
  | 5 => ("NotedVolumeModel", "names", "[I", true)
  | 6 => ("NotedVolumeModel", "marks", "[I", true)
  | 7 => ("NotedVolumeModel", "latest", "I", false)
  | 8 => ("NotedVolumeModel", "head", "I", false)
  | 9 => ("NotedVolumeModel", "notes", "[I", true)
  | 10 => ("NotedVolumeModel", "gatherings", "I", false)
  | 11 => ("NotedVolumeModel", "gathered", "[I", true)
  | 12 => ("NotedVolumeModel", "reasons", "[I", true)
  | 13 => ("NotedVolumeModel", "off", "Z", false)
  | 14 => ("NotedVolumeModel", "left", "I", false)
  | 15 => ("NotedVolumeModel", "cursors", "[I", true)
  | 16 => ("NotedVolumeModel", "masks", "[I", true)
  | 17 => ("NotedVolumeModel", "lists", "[Z", true)
  | 18 => ("NotedVolumeModel", "lasts", "[I", true)
  | 19 => ("NotedVolumeModel", "pages", "[I", true)
  | 20 => ("NotedVolumeModel", "copies", "[I", true)
  | 21 => ("NotedVolumeModel", "copyFiles", "[I", true)
  | 22 => ("NotedVolumeModel", "copySorts", "[I", true)
  | 23 => ("NotedVolumeModel", "copyParents", "[I", true)
  | 24 => ("NotedVolumeModel", "copyNames", "[I", true)
  | 25 => ("NotedVolumeModel", "copyMarks", "[I", true)
  | 26 => ("NotedVolumeModel", "toClose", "[I", true)
  | _ => ("NotedVolumeModel", "closing", "[I", true)
def ty_9 : Nat → FieldType := fun k => match k with
  | 0 => .int
  | 1 => .int
  | 2 => .array .int
  | 3 => .array .int
  | 4 => .array .int
  | 5 => .array .int
  | 6 => .array .int
  | 7 => .int
  | 8 => .int
  | 9 => .array .int
  | 10 => .int
  | 11 => .array .int
  | 12 => .array .int
  | 13 => .boolean
  | 14 => .int
  | 15 => .array .int
  | 16 => .array .int
  | 17 => .array .boolean
  | 18 => .array .int
  | 19 => .array .int
  | 20 => .array .int
  | 21 => .array .int
  | 22 => .array .int
  | 23 => .array .int
  | 24 => .array .int
  | 25 => .array .int
  | 26 => .array .int
  | _ => .array .int
def tx_10 : u_T := fun _ => ("", "", "", false)
def ty_10 : Nat → FieldType := fun _ => .int
def tx_11 : u_T := fun _ => ("", "", "", false)
def ty_11 : Nat → FieldType := fun _ => .int
def tx_12 : u_T := fun _ => ("", "", "", false)
def ty_12 : Nat → FieldType := fun _ => .int
def tx_13 : u_T := fun _ => ("", "", "", false)
def ty_13 : Nat → FieldType := fun _ => .int
def tx_14 : u_T := fun _ => ("", "", "", false)
def ty_14 : Nat → FieldType := fun _ => .int
def xv_c : List vw_C := [("NotedVolume", tx_0, 7), ("NotedVolume$Entry", tx_1, 5), ("NotedVolume$FileTable", tx_2, 2), ("NotedVolume$Note", tx_3, 2), ("NotedVolume$Ring", tx_4, 2), ("NotedVolume$Gathering", tx_5, 2), ("NotedVolume$Gatherings", tx_6, 1), ("NotedVolume$Subscriber", tx_7, 6), ("java/util/ArrayList", tx_8, 3), ("NotedVolumeModel", tx_9, 28), ("java/lang/IllegalStateException", tx_10, 0), ("java/lang/IllegalArgumentException", tx_11, 0), ("java/util/NoSuchElementException", tx_12, 0), ("java/lang/UnsupportedOperationException", tx_13, 0), ("java/lang/IndexOutOfBoundsException", tx_14, 0)]
def xv_y : List FieldType := [.int, .long, .boolean, .object "java/lang/Object", .object "NotedVolume$Note", .object "NotedVolume$Subscriber"]
def xv_S : List (String × Nat × String) := [("NotedVolume", 241, "power is off"), ("NotedVolume", 59, "20 files live"), ("NotedVolume", 243, "0 is no name"), ("NotedVolume", 254, "the file does not live"), ("NotedVolume", 250, "the parent is no folder"), ("NotedVolume", 252, "the folder has a file of this name"), ("NotedVolume", 95, "a folder has no content"), ("NotedVolume", 111, "a folder can't lie in itself"), ("NotedVolume", 120, "files lie in it"), ("NotedVolume", 135, "no gathering of it is open"), ("NotedVolume", 247, "there is no such what"), ("NotedVolume", 165, "the note is not kept"), ("NotedVolume", 256, "there is no such subscriber"), ("NotedVolume", 176, "the mask is not 0 .. 127"), ("NotedVolume", 200, "no listing goes on"), ("NotedVolume", 210, "the number of actions is not 0 .. 40"), ("NotedVolume", 222, "it is not in the copy"), ("NotedVolume", 228, "less than NONE")]
def xv_U : List Cond := [Cond.arrayOver (.object "NotedVolume$Note"), Cond.arrayOver (.object "NotedVolume$Subscriber"), Cond.arrayOver (.object "java/lang/Object"), Cond.castable "java/lang/IllegalStateException" "java/lang/IllegalStateException", Cond.castable "java/lang/IllegalArgumentException" "java/lang/IllegalArgumentException", Cond.castable "java/util/NoSuchElementException" "java/util/NoSuchElementException", Cond.castable "java/lang/UnsupportedOperationException" "java/lang/UnsupportedOperationException", Cond.castable "java/lang/IndexOutOfBoundsException" "java/lang/IndexOutOfBoundsException", Cond.castable "NotedVolume$Entry" "NotedVolume$Entry", Cond.castable "NotedVolume$Gathering" "NotedVolume$Gathering", Cond.castable "NotedVolume" "java/lang/Object", Cond.castable "NotedVolume$FileTable" "java/lang/Object", Cond.castable "NotedVolume$Ring" "java/lang/Object", Cond.castable "NotedVolume$Gatherings" "java/lang/Object", Cond.castable "NotedVolume$Subscriber" "java/lang/Object", Cond.castable "NotedVolumeModel" "java/lang/Object", Cond.castable "NotedVolume$Entry" "java/lang/Object", Cond.castable "NotedVolume$Note" "java/lang/Object", Cond.castable "NotedVolume$Gathering" "java/lang/Object", Cond.not (Cond.castable "java/lang/IllegalStateException" "java/lang/IllegalArgumentException"), Cond.not (Cond.castable "java/lang/IllegalStateException" "java/util/NoSuchElementException"), Cond.not (Cond.castable "java/lang/IllegalStateException" "java/lang/UnsupportedOperationException"), Cond.not (Cond.castable "java/lang/IllegalStateException" "java/lang/IndexOutOfBoundsException"), Cond.not (Cond.castable "java/lang/IllegalArgumentException" "java/lang/IllegalStateException"), Cond.not (Cond.castable "java/lang/IllegalArgumentException" "java/util/NoSuchElementException"), Cond.not (Cond.castable "java/lang/IllegalArgumentException" "java/lang/UnsupportedOperationException"), Cond.not (Cond.castable "java/lang/IllegalArgumentException" "java/lang/IndexOutOfBoundsException"), Cond.not (Cond.castable "java/util/NoSuchElementException" "java/lang/IllegalStateException"), Cond.not (Cond.castable "java/util/NoSuchElementException" "java/lang/IllegalArgumentException"), Cond.not (Cond.castable "java/util/NoSuchElementException" "java/lang/UnsupportedOperationException"), Cond.not (Cond.castable "java/util/NoSuchElementException" "java/lang/IndexOutOfBoundsException"), Cond.not (Cond.castable "java/lang/UnsupportedOperationException" "java/lang/IllegalStateException"), Cond.not (Cond.castable "java/lang/UnsupportedOperationException" "java/lang/IllegalArgumentException"), Cond.not (Cond.castable "java/lang/UnsupportedOperationException" "java/util/NoSuchElementException"), Cond.not (Cond.castable "java/lang/UnsupportedOperationException" "java/lang/IndexOutOfBoundsException"), Cond.not (Cond.castable "java/lang/IndexOutOfBoundsException" "java/lang/IllegalStateException"), Cond.not (Cond.castable "java/lang/IndexOutOfBoundsException" "java/lang/IllegalArgumentException"), Cond.not (Cond.castable "java/lang/IndexOutOfBoundsException" "java/util/NoSuchElementException"), Cond.not (Cond.castable "java/lang/IndexOutOfBoundsException" "java/lang/UnsupportedOperationException"), Cond.declares ⟨"java/lang/RuntimeException", "<init>", "(Ljava/lang/String;)V"⟩, Cond.declares ⟨"java/lang/Exception", "<init>", "(Ljava/lang/String;)V"⟩, Cond.declares ⟨"java/lang/Throwable", "<init>", "(Ljava/lang/String;)V"⟩]
def xv_cz : Cond → Bool
  | .castable _ _ => true
  | .not (.castable _ _) => true
  | .arrayOver (.object _) => true
  | .declares _ => true
  | _ => false
theorem xv_U_cz : ∀ w ∈ xv_U, xv_cz w = true := by decide +kernel
theorem xv_moved {w : Cond} (hw : xv_cz w = true) {u U : State} (hvm : u.vm.Alike U.vm) (h : w.before #[] u = true) : w.before #[] U = true := by
  match w, hw with
  | .castable a b, _ => exact va_tabs rfl (rfl : (u.setVm U.vm).vm = U.vm) (by rw [Cond.castable_setVm hvm]; exact h)
  | .not (.castable a b), _ => exact Cond.castAtom_setVm hvm (.not (.castable a b)) rfl h
  | .arrayOver (.object C), _ => exact va_AO.moved hvm h
  | .declares x, _ => exact va_tabs rfl (rfl : (u.setVm U.vm).vm = U.vm) (by rw [Cond.declares_setVm hvm]; exact h)
