def wp_Scr_one (post : Prop) : Prop :=
  post
def wp_Scr_two (post : Prop) : Prop :=
  post
def wp_Scr_work (post : Prop) : Prop :=
  post
